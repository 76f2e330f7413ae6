/-! ===== the reference: sets, who holds what, all of it ===== -/
theorem lor_0 (x : Int64) : x ||| lN 0 = x := by
  apply tbit_ext
  intro c hc
  rw [tbit_or, tbit_0, Bool.or_false]
theorem ior_0 (x : Int32) : x ||| nI 0 = x := by
  apply Int32.toBitVec_inj.mp
  apply BitVec.eq_of_getLsbD_eq
  intro i hi
  have e : (nI 0).toBitVec = 0#32 := by decide
  rw [Int32.toBitVec_or, e]
  simp
theorem ishl_0 : ∀ k, k < 32 → nI 0 <<< (nI k &&& 31) = nI 0 := by decide +kernel
section RPB3
variable {sL d L B : Nat} {h : mH} {g : Gs} {S : St} {p : Int32 → mH → Prop}
noncomputable def alP (S : St) (w : Int32) (c : Nat) : Bool := if w = 0 then leakP S c else if w = nI 1 then lackP S c else if w = nI 2 then freeP S c else if w = nI 3 then sharP S c else false
theorem alP_all (g : Gs) (w : Int32) : aAll g w = lOr (alP g.1 w) 64 := by
  unfold aAll
  by_cases c0 : w = 0
  · rw [if_pos (show w = nI 0 from c0)]
    exact lOr_congr (fun c _ => by unfold alP; rw [if_pos c0])
  · rw [if_neg (show ¬ w = nI 0 from c0)]
    by_cases c1 : w = nI 1
    · rw [if_pos c1]
      exact lOr_congr (fun c _ => by unfold alP; rw [if_neg c0, if_pos c1])
    · rw [if_neg c1]
      by_cases c2 : w = nI 2
      · rw [if_pos c2]
        exact lOr_congr (fun c _ => by unfold alP; rw [if_neg c0, if_neg c1, if_pos c2])
      · rw [if_neg c2]
        by_cases c3 : w = nI 3
        · rw [if_pos c3]
          exact lOr_congr (fun c _ => by unfold alP; rw [if_neg c0, if_neg c1, if_neg c2, if_pos c3])
        · rw [if_neg c3]
          refine (lOr_0.mpr (fun c _ => ?_)).symm
          unfold alP
          rw [if_neg c0, if_neg c1, if_neg c2, if_neg c3]
theorem r_all {w : Int32} {p : Int64 → mH → Prop} (hG : RG h g) (hJ : JG B g) (hp : ∀ h', FR h h' → RG h' g → p (aAll g w) h') : mG (Kd sL (d + 12)) 160 [.inr (.inr (.inr 7)), .inl w] h p := by
  refine ke_X4_all ?_
  refine EX.go (Kd_mono _ _) [false, true, false, false, false, false, false, false, false, false, false, false, false, false, false, false, false, false, false, false, false, false, false] 40 0 ?_
  dsimp only [wpc_s, wsl_t, wsl_f, gD_0, gD_s, ↓denB_n, pI_s, pG_s, pU_n, cb_X4_all_0, cb_X4_all_1, cb_X4_all_2, cb_X4_all_3, cb_X4_all_4, cb_X4_all_5, cb_X4_all_6, cb_X4_all_7, cb_X4_all_8, cb_X4_all_9, cb_X4_all_10, cb_X4_all_11, cb_X4_all_12, cb_X4_all_13, cb_X4_all_14, cb_X4_all_15, cb_X4_all_16, cb_X4_all_17, cb_X4_all_18, cb_X4_all_19, cb_X4_all_20, cb_X4_all_21, cb_X4_all_22, ↓ev_aload_n_0, ↓ev_callv_1_0_0, ↓ev_callv_1_1_0, ↓ev_callv_1_2_0, ↓ev_callv_1_3_0, ↓ev_callv_1_4_0, ↓ev_lconst_0, ↓ev_lstore_n_2, ↓ev_iconst_1, ↓ev_istore_4, ↓ev_iload_4, ↓ev_bipush_64, ↓ev_icmp_ge, ↓ev_getf_4_0, ↓ev_iconst_0, ↓ev_iadd, ↓ev_iald_o8, ↓ev_iald_o9, ↓ev_iald_o10, ↓ev_iald_o11, ↓ev_iald_o12, ↓ev_iald_o13, ↓ev_iald_o14, ↓ev_iald_o15, ↓ev_iald_o16, ↓ev_istore_5, ↓ev_iload_n_1, ↓ev_if_ne, ↓ev_iload_5, ↓ev_getf_4_5, ↓ev_icmp_le, ↓ev_goto, ↓ev_icmp_ne, ↓ev_iconst_2, ↓ev_iconst_3, ↓ev_getf_4_6, ↓ev_istore_6, ↓ev_lload_n_2, ↓ev_iload_6, ↓ev_if_eq, ↓ev_lconst_1, ↓ev_lshl, ↓ev_lor, ↓ev_iinc_4_1, ↓ev_lret, Nat.reduceAdd]
  refine r_reckons hG.1 hJ.1 (fun F G hF hG2 => ?_)
  have hp := hp _ FE.p23.fr (hG.p23 (F := F) (G := G))
  rw [alP_all] at hp
  suffices H : ∀ (f k : Nat) (x5 x6 : Option mV), k + f = 64 → 1 ≤ k → EX (Kd sL (d + 11)) sL md_X4_all (pG p) 1 [some (.inr (.inr (.inr 7))), some (.inl w), some (.inr (.inl (lOr (alP g.1 w) k))), none, some (.inl (nI k)), x5, x6] [] (h23 h F G) by
    have := H 63 1 none none rfl (by omega)
    rw [lOr_1 (P := alP g.1 w) (by
      unfold alP
      split
      · exact dec0
      · split
        · exact dec0
        · split
          · exact dec0
          · split
            · exact dec0
            · rfl)] at this
    exact this
  intro f
  induction f with
  | zero =>
    intro k x5 x6 hk h1
    refine EX.go (Kd_mono _ _) [false, true, false, false, false, false, false, false, false, false, false, false, false, false, false, false, false, false, false, false, false, false, false] 40 1 ?_
    dsimp only [wpc_s, wsl_t, wsl_f, gD_0, gD_s, ↓denB_n, pI_s, pG_s, pU_n, cb_X4_all_0, cb_X4_all_1, cb_X4_all_2, cb_X4_all_3, cb_X4_all_4, cb_X4_all_5, cb_X4_all_6, cb_X4_all_7, cb_X4_all_8, cb_X4_all_9, cb_X4_all_10, cb_X4_all_11, cb_X4_all_12, cb_X4_all_13, cb_X4_all_14, cb_X4_all_15, cb_X4_all_16, cb_X4_all_17, cb_X4_all_18, cb_X4_all_19, cb_X4_all_20, cb_X4_all_21, cb_X4_all_22, ↓ev_aload_n_0, ↓ev_callv_1_0_0, ↓ev_callv_1_1_0, ↓ev_callv_1_2_0, ↓ev_callv_1_3_0, ↓ev_callv_1_4_0, ↓ev_lconst_0, ↓ev_lstore_n_2, ↓ev_iconst_1, ↓ev_istore_4, ↓ev_iload_4, ↓ev_bipush_64, ↓ev_icmp_ge, ↓ev_getf_4_0, ↓ev_iconst_0, ↓ev_iadd, ↓ev_iald_o8, ↓ev_iald_o9, ↓ev_iald_o10, ↓ev_iald_o11, ↓ev_iald_o12, ↓ev_iald_o13, ↓ev_iald_o14, ↓ev_iald_o15, ↓ev_iald_o16, ↓ev_istore_5, ↓ev_iload_n_1, ↓ev_if_ne, ↓ev_iload_5, ↓ev_getf_4_5, ↓ev_icmp_le, ↓ev_goto, ↓ev_icmp_ne, ↓ev_iconst_2, ↓ev_iconst_3, ↓ev_getf_4_6, ↓ev_istore_6, ↓ev_lload_n_2, ↓ev_iload_6, ↓ev_if_eq, ↓ev_lconst_1, ↓ev_lshl, ↓ev_lor, ↓ev_iinc_4_1, ↓ev_lret, Nat.reduceAdd]
    try simp (disch := omega) only [pk_mul, nI_add, n_lt0, n_le0, n_eq0, n_ge0, n_gt0, n_lt, n_le, n_eq, n_in, n_div, n_rem, n_rem2, n_m1, nI_clamp, bz_0, bz_1, tI_0, tI_bz, n4, n16, eq_self, Nat.reduceLT, Nat.reduceLeDiff, Nat.reduceEqDiff, Nat.reduceAdd, Nat.reduceMul, Nat.reduceDiv, Nat.reduceMod, Nat.le_refl, decide_eq_false_iff_not, Classical.not_not, true_and, and_true, false_and, and_false, not_true_eq_false, not_false_eq_true, forall_const, true_implies, false_implies, implies_true, ne_eq]
    rw [show k = 64 by omega]
    exact ⟨fun _ => hp, fun z => absurd (show 64 ≤ 64 by omega) z⟩
  | succ f ih =>
    intro k x5 x6 hk h1
    refine EX.go (Kd_mono _ _) [false, true, false, false, false, false, false, false, false, false, false, false, false, false, false, false, false, false, true, false, false, false, false] 40 1 ?_
    dsimp only [wpc_s, wsl_t, wsl_f, gD_0, gD_s, ↓denB_n, pI_s, pG_s, pU_n, cb_X4_all_0, cb_X4_all_1, cb_X4_all_2, cb_X4_all_3, cb_X4_all_4, cb_X4_all_5, cb_X4_all_6, cb_X4_all_7, cb_X4_all_8, cb_X4_all_9, cb_X4_all_10, cb_X4_all_11, cb_X4_all_12, cb_X4_all_13, cb_X4_all_14, cb_X4_all_15, cb_X4_all_16, cb_X4_all_17, cb_X4_all_18, cb_X4_all_19, cb_X4_all_20, cb_X4_all_21, cb_X4_all_22, ↓ev_aload_n_0, ↓ev_callv_1_0_0, ↓ev_callv_1_1_0, ↓ev_callv_1_2_0, ↓ev_callv_1_3_0, ↓ev_callv_1_4_0, ↓ev_lconst_0, ↓ev_lstore_n_2, ↓ev_iconst_1, ↓ev_istore_4, ↓ev_iload_4, ↓ev_bipush_64, ↓ev_icmp_ge, ↓ev_getf_4_0, ↓ev_iconst_0, ↓ev_iadd, ↓ev_iald_o8, ↓ev_iald_o9, ↓ev_iald_o10, ↓ev_iald_o11, ↓ev_iald_o12, ↓ev_iald_o13, ↓ev_iald_o14, ↓ev_iald_o15, ↓ev_iald_o16, ↓ev_istore_5, ↓ev_iload_n_1, ↓ev_if_ne, ↓ev_iload_5, ↓ev_getf_4_5, ↓ev_icmp_le, ↓ev_goto, ↓ev_icmp_ne, ↓ev_iconst_2, ↓ev_iconst_3, ↓ev_getf_4_6, ↓ev_istore_6, ↓ev_lload_n_2, ↓ev_iload_6, ↓ev_if_eq, ↓ev_lconst_1, ↓ev_lshl, ↓ev_lor, ↓ev_iinc_4_1, ↓ev_lret, Nat.reduceAdd]
    have e0 : h (.inr 8) k = g.1 k := hG.1 _ (by omega)
    have e1 := hF k h1 (by omega)
    have e2 := hG2 k h1 (by omega)
    have hle := nmc_le g.1 k
    have J18 : ∀ (b : Bool) (x5 x6 : Option mV), b = alP g.1 w k → EX (Kd sL (d + 11)) sL md_X4_all (pG p) 18 [some (.inr (.inr (.inr 7))), some (.inl w), some (.inr (.inl (lOr (alP g.1 w) k))), none, some (.inl (nI k)), x5, x6] [.inl (tI b)] (h23 h F G) := by
      intro b x5 x6 hb
      refine EX.go (Kd_mono _ _) [false, true, false, false, false, false, false, false, false, false, false, false, false, false, false, false, false, false, false, false, false, false, false] 40 18 ?_
      dsimp only [wpc_s, wsl_t, wsl_f, gD_0, gD_s, ↓denB_n, pI_s, pG_s, pU_n, cb_X4_all_0, cb_X4_all_1, cb_X4_all_2, cb_X4_all_3, cb_X4_all_4, cb_X4_all_5, cb_X4_all_6, cb_X4_all_7, cb_X4_all_8, cb_X4_all_9, cb_X4_all_10, cb_X4_all_11, cb_X4_all_12, cb_X4_all_13, cb_X4_all_14, cb_X4_all_15, cb_X4_all_16, cb_X4_all_17, cb_X4_all_18, cb_X4_all_19, cb_X4_all_20, cb_X4_all_21, cb_X4_all_22, ↓ev_aload_n_0, ↓ev_callv_1_0_0, ↓ev_callv_1_1_0, ↓ev_callv_1_2_0, ↓ev_callv_1_3_0, ↓ev_callv_1_4_0, ↓ev_lconst_0, ↓ev_lstore_n_2, ↓ev_iconst_1, ↓ev_istore_4, ↓ev_iload_4, ↓ev_bipush_64, ↓ev_icmp_ge, ↓ev_getf_4_0, ↓ev_iconst_0, ↓ev_iadd, ↓ev_iald_o8, ↓ev_iald_o9, ↓ev_iald_o10, ↓ev_iald_o11, ↓ev_iald_o12, ↓ev_iald_o13, ↓ev_iald_o14, ↓ev_iald_o15, ↓ev_iald_o16, ↓ev_istore_5, ↓ev_iload_n_1, ↓ev_if_ne, ↓ev_iload_5, ↓ev_getf_4_5, ↓ev_icmp_le, ↓ev_goto, ↓ev_icmp_ne, ↓ev_iconst_2, ↓ev_iconst_3, ↓ev_getf_4_6, ↓ev_istore_6, ↓ev_lload_n_2, ↓ev_iload_6, ↓ev_if_eq, ↓ev_lconst_1, ↓ev_lshl, ↓ev_lor, ↓ev_iinc_4_1, ↓ev_lret, Nat.reduceAdd]
      try simp (disch := omega) only [pk_mul, nI_add, n_lt0, n_le0, n_eq0, n_ge0, n_gt0, n_lt, n_le, n_eq, n_in, n_div, n_rem, n_rem2, n_m1, nI_clamp, bz_0, bz_1, tI_0, tI_bz, n4, n16, eq_self, Nat.reduceLT, Nat.reduceLeDiff, Nat.reduceEqDiff, Nat.reduceAdd, Nat.reduceMul, Nat.reduceDiv, Nat.reduceMod, Nat.le_refl, decide_eq_false_iff_not, Classical.not_not, true_and, and_true, false_and, and_false, not_true_eq_false, not_false_eq_true, forall_const, true_implies, false_implies, implies_true, ne_eq]
      have ih2 := fun x5 x6 => ih (k + 1) x5 x6 (by omega) (by omega)
      unfold lOr at ih2
      rw [← hb] at ih2
      refine ⟨fun c => ?_, fun c => ?_⟩
      · rw [c, if_neg (by decide)] at ih2
        rw [lor_0]
        exact ih2 _ _
      · rw [if_pos (by simpa using c)] at ih2
        exact ih2 _ _
    try simp (disch := omega) only [pk_mul, nI_add, n_lt0, n_le0, n_eq0, n_ge0, n_gt0, n_lt, n_le, n_eq, n_in, n_div, n_rem, n_rem2, n_m1, nI_clamp, bz_0, bz_1, tI_0, tI_bz, n4, n16, eq_self, Nat.reduceLT, Nat.reduceLeDiff, Nat.reduceEqDiff, Nat.reduceAdd, Nat.reduceMul, Nat.reduceDiv, Nat.reduceMod, Nat.le_refl, decide_eq_false_iff_not, Classical.not_not, true_and, and_true, false_and, and_false, not_true_eq_false, not_false_eq_true, forall_const, true_implies, false_implies, implies_true, ne_eq, Nat.zero_add, a_8, a_12, a_13, e0, e1, e2]
    refine ⟨fun z => absurd z (by omega), fun _ => ⟨by omega, fun c0 => ⟨fun c1 => ⟨fun c2 => ⟨fun c3 => ?_, fun c3 => ⟨by omega, fun c4 => ?_, fun c4 => ?_⟩⟩, fun c2 => ⟨fun c3 => ?_, fun c3 => ?_⟩⟩, fun c1 => ⟨by omega, fun c2 => ?_, fun c2 => ?_⟩⟩, fun c0 => ⟨by omega, fun c1 => ?_, fun c1 => ?_⟩⟩⟩
    · exact J18 false _ _ (by unfold alP; rw [if_neg c0, if_neg c1, if_neg c2, if_neg c3])
    · exact J18 false _ _ (by unfold alP; rw [if_neg c0, if_neg c1, if_neg c2, if_pos c3]; unfold sharP; exact (dec_f.mpr (fun z => absurd z.2 (by omega))).symm)
    · exact J18 true _ _ (by unfold alP; rw [if_neg c0, if_neg c1, if_neg c2, if_pos c3]; unfold sharP; exact (dec_t.mpr ⟨h1, by omega⟩).symm)
    · exact J18 false _ _ (by unfold alP; rw [if_neg c0, if_neg c1, if_pos c2]; unfold freeP; exact (dec_f.mpr (fun z => c3 z.2)).symm)
    · exact J18 true _ _ (by unfold alP; rw [if_neg c0, if_neg c1, if_pos c2]; unfold freeP; exact (dec_t.mpr ⟨h1, c3⟩).symm)
    · exact J18 false _ _ (by unfold alP; rw [if_neg c0, if_pos c1]; unfold lackP; exact (dec_f.mpr (fun z => Int32.not_lt.mpr c2 z.2)).symm)
    · exact J18 true _ _ (by unfold alP; rw [if_neg c0, if_pos c1]; unfold lackP; exact (dec_t.mpr ⟨h1, Int32.not_le.mp c2⟩).symm)
    · exact J18 false _ _ (by unfold alP; rw [if_pos c0]; unfold leakP; exact (dec_f.mpr (fun z => Int32.not_lt.mpr c1 z.2)).symm)
    · exact J18 true _ _ (by unfold alP; rw [if_pos c0]; unfold leakP; exact (dec_t.mpr ⟨h1, Int32.not_le.mp c1⟩).symm)
noncomputable def mdk (S : St) (k : Nat) : St := fun j => if 1 ≤ j ∧ j < k then nI (tru S j) else S j
theorem mdk_y {k j : Nat} (h : 1 ≤ j ∧ j < k) : mdk S k j = nI (tru S j) := if_pos h
theorem mdk_n {k j : Nat} (h : ¬ (1 ≤ j ∧ j < k)) : mdk S k j = S j := if_neg h
theorem r_repair (hG : RG h g) (hJ : JG B g) (hp : ∀ h', FR h h' → RG h' (aRepair g).2 → p (aRepair g).1 h') : mI (Kd sL (d + 12)) 161 [.inr (.inr (.inr 7))] h p := by
  refine ke_X4_repair ?_
  refine EX.go (Kd_mono _ _) [false, true, false, false, false, false, false] 40 0 ?_
  dsimp only [wpc_s, wsl_t, wsl_f, gD_0, gD_s, ↓denB_n, pI_s, pG_s, pU_n, cb_X4_repair_0, cb_X4_repair_1, cb_X4_repair_2, cb_X4_repair_3, cb_X4_repair_4, cb_X4_repair_5, cb_X4_repair_6, ↓ev_aload_n_0, ↓ev_callv_1_0_0, ↓ev_callv_1_1_0, ↓ev_callv_1_2_0, ↓ev_callv_1_3_0, ↓ev_callv_1_4_0, ↓ev_iconst_0, ↓ev_istore_n_1, ↓ev_iconst_1, ↓ev_istore_n_2, ↓ev_iload_n_2, ↓ev_bipush_64, ↓ev_icmp_ge, ↓ev_iload_n_1, ↓ev_getf_4_0, ↓ev_iadd, ↓ev_iald_o8, ↓ev_iald_o9, ↓ev_iald_o10, ↓ev_iald_o11, ↓ev_iald_o12, ↓ev_iald_o13, ↓ev_iald_o14, ↓ev_iald_o15, ↓ev_iald_o16, ↓ev_getf_4_5, ↓ev_icmp_ne, ↓ev_goto, ↓ev_iast_o8, ↓ev_iast_o9, ↓ev_iast_o10, ↓ev_iast_o11, ↓ev_iast_o12, ↓ev_iast_o13, ↓ev_iast_o14, ↓ev_iast_o15, ↓ev_iast_o16, ↓ev_iinc_2_1, ↓ev_iret, Nat.reduceAdd]
  refine r_reckons hG.1 hJ.1 (fun F G hF hG2 => ?_)
  unfold aRepair at hp
  suffices H : ∀ (f k : Nat) (h2 : mH), k + f = 64 → 1 ≤ k → FE h h2 → h2 (.inr 12) = F → RS h2 (mdk g.1 k) → EX (Kd sL (d + 11)) sL md_X4_repair (pI p) 1 [some (.inr (.inr (.inr 7))), some (.inl (nI (fb_ct (mndP g.1) k))), some (.inl (nI k))] [] h2 by
    have := H 63 1 (h23 h F G) rfl (by omega) FE.p23 a_12 (fun j hj => by rw [mdk_n (by omega), a_8]; exact hG.1 j hj)
    have e9 : mndP g.1 0 = false := dec0
    rw [show fb_ct (mndP g.1) 1 = 0 by simp [fb_ct, e9]] at this
    exact this
  intro f
  induction f with
  | zero =>
    intro k h2 hk h1 o2 e12 s2
    refine EX.go (Kd_mono _ _) [false, true, false, false, false, false, false] 40 1 ?_
    dsimp only [wpc_s, wsl_t, wsl_f, gD_0, gD_s, ↓denB_n, pI_s, pG_s, pU_n, cb_X4_repair_0, cb_X4_repair_1, cb_X4_repair_2, cb_X4_repair_3, cb_X4_repair_4, cb_X4_repair_5, cb_X4_repair_6, ↓ev_aload_n_0, ↓ev_callv_1_0_0, ↓ev_callv_1_1_0, ↓ev_callv_1_2_0, ↓ev_callv_1_3_0, ↓ev_callv_1_4_0, ↓ev_iconst_0, ↓ev_istore_n_1, ↓ev_iconst_1, ↓ev_istore_n_2, ↓ev_iload_n_2, ↓ev_bipush_64, ↓ev_icmp_ge, ↓ev_iload_n_1, ↓ev_getf_4_0, ↓ev_iadd, ↓ev_iald_o8, ↓ev_iald_o9, ↓ev_iald_o10, ↓ev_iald_o11, ↓ev_iald_o12, ↓ev_iald_o13, ↓ev_iald_o14, ↓ev_iald_o15, ↓ev_iald_o16, ↓ev_getf_4_5, ↓ev_icmp_ne, ↓ev_goto, ↓ev_iast_o8, ↓ev_iast_o9, ↓ev_iast_o10, ↓ev_iast_o11, ↓ev_iast_o12, ↓ev_iast_o13, ↓ev_iast_o14, ↓ev_iast_o15, ↓ev_iast_o16, ↓ev_iinc_2_1, ↓ev_iret, Nat.reduceAdd]
    try simp (disch := omega) only [pk_mul, nI_add, n_lt0, n_le0, n_eq0, n_ge0, n_gt0, n_lt, n_le, n_eq, n_in, n_div, n_rem, n_rem2, n_m1, nI_clamp, bz_0, bz_1, tI_0, tI_bz, n4, n16, eq_self, Nat.reduceLT, Nat.reduceLeDiff, Nat.reduceEqDiff, Nat.reduceAdd, Nat.reduceMul, Nat.reduceDiv, Nat.reduceMod, Nat.le_refl, decide_eq_false_iff_not, Classical.not_not, true_and, and_true, false_and, and_false, not_true_eq_false, not_false_eq_true, forall_const, true_implies, false_implies, implies_true, ne_eq]
    have hk4 : k = 64 := by omega
    subst hk4
    exact ⟨fun _ => hp h2 o2.fr (hG.fe o2 s2), fun z => absurd (show 64 ≤ 64 by omega) z⟩
  | succ f ih =>
    intro k h2 hk h1 o2 e12 s2
    refine EX.go (Kd_mono _ _) [false, true, false, false, false, false, false] 40 1 ?_
    dsimp only [wpc_s, wsl_t, wsl_f, gD_0, gD_s, ↓denB_n, pI_s, pG_s, pU_n, cb_X4_repair_0, cb_X4_repair_1, cb_X4_repair_2, cb_X4_repair_3, cb_X4_repair_4, cb_X4_repair_5, cb_X4_repair_6, ↓ev_aload_n_0, ↓ev_callv_1_0_0, ↓ev_callv_1_1_0, ↓ev_callv_1_2_0, ↓ev_callv_1_3_0, ↓ev_callv_1_4_0, ↓ev_iconst_0, ↓ev_istore_n_1, ↓ev_iconst_1, ↓ev_istore_n_2, ↓ev_iload_n_2, ↓ev_bipush_64, ↓ev_icmp_ge, ↓ev_iload_n_1, ↓ev_getf_4_0, ↓ev_iadd, ↓ev_iald_o8, ↓ev_iald_o9, ↓ev_iald_o10, ↓ev_iald_o11, ↓ev_iald_o12, ↓ev_iald_o13, ↓ev_iald_o14, ↓ev_iald_o15, ↓ev_iald_o16, ↓ev_getf_4_5, ↓ev_icmp_ne, ↓ev_goto, ↓ev_iast_o8, ↓ev_iast_o9, ↓ev_iast_o10, ↓ev_iast_o11, ↓ev_iast_o12, ↓ev_iast_o13, ↓ev_iast_o14, ↓ev_iast_o15, ↓ev_iast_o16, ↓ev_iinc_2_1, ↓ev_iret, Nat.reduceAdd]
    have e0 : h2 (.inr 8) k = g.1 k := by rw [s2 k (by omega), mdk_n (by omega)]
    have e1 := hF k h1 (by omega)
    try simp (disch := omega) only [pk_mul, nI_add, n_lt0, n_le0, n_eq0, n_ge0, n_gt0, n_lt, n_le, n_eq, n_in, n_div, n_rem, n_rem2, n_m1, nI_clamp, bz_0, bz_1, tI_0, tI_bz, n4, n16, eq_self, Nat.reduceLT, Nat.reduceLeDiff, Nat.reduceEqDiff, Nat.reduceAdd, Nat.reduceMul, Nat.reduceDiv, Nat.reduceMod, Nat.le_refl, decide_eq_false_iff_not, Classical.not_not, true_and, and_true, false_and, and_false, not_true_eq_false, not_false_eq_true, forall_const, true_implies, false_implies, implies_true, ne_eq, Nat.zero_add, e12, e0, e1]
    have ih2 := ih (k + 1) (hup h2 (.inr 8) k (nI (tru g.1 k))) (by omega) (by omega) (o2.tr FE.u8) (by funext j; rw [hup_other (by simp), e12]) (fun j hj => by
      by_cases z : j = k
      · subst z; rw [hup_same, mdk_y (by omega)]
      · rw [hup_idx z, s2 j hj]
        by_cases y : 1 ≤ j ∧ j < k
        · rw [mdk_y y, mdk_y (by omega)]
        · rw [mdk_n y, mdk_n (by omega)])
    rw [fb_ct_succ] at ih2
    refine ⟨fun z => absurd z (by omega), fun _ => ⟨by omega, by omega, fun c => ⟨by omega, by omega, ?_⟩, fun c => ⟨by omega, by omega, ?_⟩⟩⟩
    · rw [if_pos (by unfold mndP; exact dec_t.mpr ⟨h1, c⟩)] at ih2
      exact ih2
    · rw [if_neg (by unfold mndP; rw [dec_t]; exact fun z => z.2 c)] at ih2
      exact ih2
theorem r_wipe (hG : RG h g) (hp : ∀ h', FR h h' → RG h' (aWipe g).2 → p (aWipe g).1 h') : mI (Kd sL (d + 12)) 180 [.inr (.inr (.inr 7))] h p := by
  refine ke_X4_wipe ?_
  refine EX.go (Kd_mono _ _) [false] 40 0 ?_
  dsimp only [wpc_s, wsl_t, wsl_f, gD_0, gD_s, ↓denB_n, pI_s, pG_s, pU_n, cb_X4_wipe_0, ↓ev_aload_n_0, ↓ev_getf_4_15, ↓ev_istore_n_1, ↓ev_iconst_0, ↓ev_putf_4_15, ↓ev_iload_n_1, ↓ev_iret, Nat.reduceAdd]
  obtain ⟨h1, h2, h3, h4, h5, h6, h7, h8⟩ := hG
  rw [h6]
  refine hp _ (fr_up (by decide) (by decide)) ⟨h1.ot (by simp), fun z j hj => ?_, ?_, ?_, fun j hj => ?_, ?_, Nat.zero_le _, fun j hj => absurd hj (Nat.not_lt_zero j)⟩
  · rw [hup_other (by simp)]; exact h2 z j hj
  · rw [hup_idx (by decide)]; exact h3
  · rw [hup_idx (by decide)]; exact h4
  · rw [hup_other (by simp)]; exact h5 j hj
  · rw [hup_same]; rfl
theorem r_keep (hG : RG h g) (hp : ∀ h', FR h h' → RG h' (aKeep g).2 → p (aKeep g).1 h') : mI (Kd sL (d + 12)) 187 [.inr (.inr (.inr 7))] h p := by
  refine ke_X4_keep ?_
  refine EX.go (Kd_mono _ _) [false] 40 0 ?_
  dsimp only [wpc_s, wsl_t, wsl_f, gD_0, gD_s, ↓denB_n, pI_s, pG_s, pU_n, cb_X4_keep_0, ↓ev_aload_n_0, ↓ev_getf_4_0, ↓ev_getf_4_2, ↓ev_calls_2_0_0, ↓ev_calls_2_1_0, ↓ev_calls_2_2_0, ↓ev_calls_2_3_0, ↓ev_calls_2_4_0, ↓ev_iconst_1, ↓ev_putf_4_3, ↓ev_callv_1_0_1, ↓ev_callv_1_1_1, ↓ev_callv_1_2_1, ↓ev_callv_1_3_1, ↓ev_callv_1_4_1, ↓ev_iret, Nat.reduceAdd]
  refine r_copies rfl rfl (by simp) (fun f hf => ?_)
  refine ⟨Or.inr rfl, ?_⟩
  obtain ⟨h1, h2, h3, h4, h5, h6, h7, h8⟩ := hG
  have s1 : RS (hup (hpt h (.inr 10) f) (.inr 7) 3 (nI 1)) g.1 := RS.ot (fun j hj => by rw [hpt_ne (by simp)]; exact h1 j hj) (by simp)
  refine r_free s1 (hp _ ((fr_pt (by decide) (by decide)).tr (fr_up (by decide) (by decide))) ⟨s1, fun z j hj => ?_, ?_, ?_, fun j hj => ?_, ?_, h7, fun j hj => ?_⟩)
  · rw [hup_other (by simp), hpt_self, hf j hj]; exact h1 j hj
  · rw [hup_same]; rfl
  · rw [hup_idx (by decide), hpt_ne (by simp)]; exact h4
  · rw [hup_other (by simp), hpt_ne (by simp)]; exact h5 j hj
  · rw [hup_idx (by decide), hpt_ne (by simp)]; exact h6
  · rw [hup_other (by simp), hpt_ne (by simp)]; exact h8 j hj
theorem r_again (hG : RG h g) (hp : ∀ h', FR h h' → RG h' (aAgain g).2 → p (aAgain g).1 h') : mI (Kd sL (d + 12)) 188 [.inr (.inr (.inr 7))] h p := by
  refine ke_X4_again ?_
  refine EX.go (Kd_mono _ _) [false, false, false] 40 0 ?_
  dsimp only [wpc_s, wsl_t, wsl_f, gD_0, gD_s, ↓denB_n, pI_s, pG_s, pU_n, cb_X4_again_0, cb_X4_again_1, cb_X4_again_2, ↓ev_aload_n_0, ↓ev_getf_4_3, ↓ev_if_ne, ↓ev_sipush_m1003, ↓ev_callv_2_0_1, ↓ev_callv_2_1_1, ↓ev_callv_2_2_1, ↓ev_callv_2_3_1, ↓ev_callv_2_4_1, ↓ev_iret, ↓ev_getf_4_2, ↓ev_getf_4_0, ↓ev_calls_2_0_0, ↓ev_calls_2_1_0, ↓ev_calls_2_2_0, ↓ev_calls_2_3_0, ↓ev_calls_2_4_0, ↓ev_callv_1_0_1, ↓ev_callv_1_1_1, ↓ev_callv_1_2_1, ↓ev_callv_1_3_1, ↓ev_callv_1_4_1, Nat.reduceAdd]
  have e3 := hG.2.2.1
  unfold aAgain at hp
  rw [e3]
  try simp (disch := omega) only [pk_mul, nI_add, n_lt0, n_le0, n_eq0, n_ge0, n_gt0, n_lt, n_le, n_eq, n_in, n_div, n_rem, n_rem2, n_m1, nI_clamp, bz_0, bz_1, tI_0, tI_bz, n4, n16, eq_self, Nat.reduceLT, Nat.reduceLeDiff, Nat.reduceEqDiff, Nat.reduceAdd, Nat.reduceMul, Nat.reduceDiv, Nat.reduceMod, Nat.le_refl, decide_eq_false_iff_not, Classical.not_not, true_and, and_true, false_and, and_false, not_true_eq_false, not_false_eq_true, forall_const, true_implies, false_implies, implies_true, ne_eq]
  refine ⟨fun c => ?_, fun c => ?_⟩
  · have c1 : g.2.2.1 = true := by simpa using c
    rw [if_pos c1] at hp
    refine r_copies rfl rfl (by simp) (fun f hf => ?_)
    have s1 : RS (hpt h (.inr 8) f) g.2.1 := fun j hj => by rw [hpt_self, hf j hj]; exact hG.2.1 c1 j hj
    exact r_free s1 (hp _ (fr_pt (by decide) (by decide)) (hG.fe (FE.pt (Or.inl rfl)) s1))
  · rw [if_neg (by rw [c]; decide)] at hp
    exact r_rf (j := 2) hG (by decide) hp
theorem r_count {w : Int32} (hG : RG h g) (hJ : JG B g) (hp : ∀ h', FR h h' → RG h' (aCount g w).2 → p (aCount g w).1 h') : mI (Kd sL (d + 12)) 189 [.inr (.inr (.inr 7)), .inl w] h p := by
  refine ke_X4_count ?_
  refine EX.go (Kd_mono _ _) [false, true, false, false, false, false, false, false, false, false, false] 40 0 ?_
  dsimp only [wpc_s, wsl_t, wsl_f, gD_0, gD_s, ↓denB_n, pI_s, pG_s, pU_n, cb_X4_count_0, cb_X4_count_1, cb_X4_count_2, cb_X4_count_3, cb_X4_count_4, cb_X4_count_5, cb_X4_count_6, cb_X4_count_7, cb_X4_count_8, cb_X4_count_9, cb_X4_count_10, ↓ev_iconst_0, ↓ev_istore_n_2, ↓ev_istore_n_3, ↓ev_iload_n_3, ↓ev_bipush_8, ↓ev_icmp_ge, ↓ev_iload_n_2, ↓ev_aload_n_0, ↓ev_getf_4_0, ↓ev_sipush_383, ↓ev_iadd, ↓ev_iald_o8, ↓ev_iald_o9, ↓ev_iald_o10, ↓ev_iald_o11, ↓ev_iald_o12, ↓ev_iald_o13, ↓ev_iald_o14, ↓ev_iald_o15, ↓ev_iald_o16, ↓ev_ishl, ↓ev_ior, ↓ev_iinc_3_1, ↓ev_goto, ↓ev_iload_n_1, ↓ev_tsw_0_6, ↓ev_sipush_320, ↓ev_iret, ↓ev_callv_1_0_1, ↓ev_callv_1_1_1, ↓ev_callv_1_2_1, ↓ev_callv_1_3_1, ↓ev_callv_1_4_1, ↓ev_sipush_399, ↓ev_getf_4_15, ↓ev_getf_4_11, ↓ev_sipush_m1001, ↓ev_callv_2_0_1, ↓ev_callv_2_1_1, ↓ev_callv_2_2_1, ↓ev_callv_2_3_1, ↓ev_callv_2_4_1, Nat.reduceAdd]
  suffices H : ∀ (f k : Nat), k + f = 8 → EX (Kd sL (d + 11)) sL md_X4_count (pI p) 1 [some (.inr (.inr (.inr 7))), some (.inl w), some (.inl (iOr (fun s => decide (¬ sn g.1 s = -1)) k)), some (.inl (nI k))] [] h from H 8 0 rfl
  intro f
  induction f with
  | zero =>
    intro k hk
    have hk8 : k = 8 := by omega
    subst hk8
    refine EX.go (Kd_mono _ _) [false, true, false, false, false, false, false, false, false, false, false] 40 1 ?_
    dsimp only [wpc_s, wsl_t, wsl_f, gD_0, gD_s, ↓denB_n, pI_s, pG_s, pU_n, cb_X4_count_0, cb_X4_count_1, cb_X4_count_2, cb_X4_count_3, cb_X4_count_4, cb_X4_count_5, cb_X4_count_6, cb_X4_count_7, cb_X4_count_8, cb_X4_count_9, cb_X4_count_10, ↓ev_iconst_0, ↓ev_istore_n_2, ↓ev_istore_n_3, ↓ev_iload_n_3, ↓ev_bipush_8, ↓ev_icmp_ge, ↓ev_iload_n_2, ↓ev_aload_n_0, ↓ev_getf_4_0, ↓ev_sipush_383, ↓ev_iadd, ↓ev_iald_o8, ↓ev_iald_o9, ↓ev_iald_o10, ↓ev_iald_o11, ↓ev_iald_o12, ↓ev_iald_o13, ↓ev_iald_o14, ↓ev_iald_o15, ↓ev_iald_o16, ↓ev_ishl, ↓ev_ior, ↓ev_iinc_3_1, ↓ev_goto, ↓ev_iload_n_1, ↓ev_tsw_0_6, ↓ev_sipush_320, ↓ev_iret, ↓ev_callv_1_0_1, ↓ev_callv_1_1_1, ↓ev_callv_1_2_1, ↓ev_callv_1_3_1, ↓ev_callv_1_4_1, ↓ev_sipush_399, ↓ev_getf_4_15, ↓ev_getf_4_11, ↓ev_sipush_m1001, ↓ev_callv_2_0_1, ↓ev_callv_2_1_1, ↓ev_callv_2_2_1, ↓ev_callv_2_3_1, ↓ev_callv_2_4_1, Nat.reduceAdd]
    have e0 : h (.inr 8) 320 = nI (mn g.1) := (hG.1 320 (by decide)).trans hJ.1.m2
    have e3 : h (.inr 8) 399 = g.1 399 := hG.1 399 (by decide)
    have e4 := hG.2.2.2.2.2.1
    have e5 := hG.2.2.2.1
    unfold aCount at hp
    have fin := fun z => hp h FR.rf z
    try simp (disch := omega) only [pk_mul, nI_add, n_lt0, n_le0, n_eq0, n_ge0, n_gt0, n_lt, n_le, n_eq, n_in, n_div, n_rem, n_rem2, n_m1, nI_clamp, bz_0, bz_1, tI_0, tI_bz, n4, n16, eq_self, Nat.reduceLT, Nat.reduceLeDiff, Nat.reduceEqDiff, Nat.reduceAdd, Nat.reduceMul, Nat.reduceDiv, Nat.reduceMod, Nat.le_refl, decide_eq_false_iff_not, Classical.not_not, true_and, and_true, false_and, and_false, not_true_eq_false, not_false_eq_true, forall_const, true_implies, false_implies, implies_true, ne_eq, e0, e3, e4, e5]
    refine ⟨fun c0 => ?_, fun c0 => ⟨fun c1 => ?_, fun c1 => ⟨fun c2 => ?_, fun c2 => ⟨fun c3 => ?_, fun c3 => ⟨fun c4 => ?_, fun c4 => ⟨fun c5 => ?_, fun c5 => ?_⟩⟩⟩⟩⟩⟩
    · rw [if_pos c0] at fin
      exact fin hG
    · rw [if_neg c0, if_pos c1] at fin
      exact fin hG
    · rw [if_neg c0, if_neg c1, if_pos c2] at fin
      exact r_free hG.1 (fin hG)
    · rw [if_neg c0, if_neg c1, if_neg c2, if_pos c3] at fin
      exact fin hG
    · rw [if_neg c0, if_neg c1, if_neg c2, if_neg c3, if_pos c4] at fin
      exact fin hG
    · rw [if_neg c0, if_neg c1, if_neg c2, if_neg c3, if_neg c4, if_pos c5] at fin
      exact fin hG
    · rw [if_neg c0, if_neg c1, if_neg c2, if_neg c3, if_neg c4, if_neg c5] at hp
      exact r_rf (j := 0) hG (by decide) hp
  | succ f ih =>
    intro k hk
    refine EX.go (Kd_mono _ _) [false, true, false, false, false, false, false, false, false, false, false] 40 1 ?_
    dsimp only [wpc_s, wsl_t, wsl_f, gD_0, gD_s, ↓denB_n, pI_s, pG_s, pU_n, cb_X4_count_0, cb_X4_count_1, cb_X4_count_2, cb_X4_count_3, cb_X4_count_4, cb_X4_count_5, cb_X4_count_6, cb_X4_count_7, cb_X4_count_8, cb_X4_count_9, cb_X4_count_10, ↓ev_iconst_0, ↓ev_istore_n_2, ↓ev_istore_n_3, ↓ev_iload_n_3, ↓ev_bipush_8, ↓ev_icmp_ge, ↓ev_iload_n_2, ↓ev_aload_n_0, ↓ev_getf_4_0, ↓ev_sipush_383, ↓ev_iadd, ↓ev_iald_o8, ↓ev_iald_o9, ↓ev_iald_o10, ↓ev_iald_o11, ↓ev_iald_o12, ↓ev_iald_o13, ↓ev_iald_o14, ↓ev_iald_o15, ↓ev_iald_o16, ↓ev_ishl, ↓ev_ior, ↓ev_iinc_3_1, ↓ev_goto, ↓ev_iload_n_1, ↓ev_tsw_0_6, ↓ev_sipush_320, ↓ev_iret, ↓ev_callv_1_0_1, ↓ev_callv_1_1_1, ↓ev_callv_1_2_1, ↓ev_callv_1_3_1, ↓ev_callv_1_4_1, ↓ev_sipush_399, ↓ev_getf_4_15, ↓ev_getf_4_11, ↓ev_sipush_m1001, ↓ev_callv_2_0_1, ↓ev_callv_2_1_1, ↓ev_callv_2_2_1, ↓ev_callv_2_3_1, ↓ev_callv_2_4_1, Nat.reduceAdd]
    have e : h (.inr 8) (383 + k) = g.1 (383 + k) := hG.1 _ (by omega)
    try simp (disch := omega) only [pk_mul, nI_add, n_lt0, n_le0, n_eq0, n_ge0, n_gt0, n_lt, n_le, n_eq, n_in, n_div, n_rem, n_rem2, n_m1, nI_clamp, bz_0, bz_1, tI_0, tI_bz, n4, n16, eq_self, Nat.reduceLT, Nat.reduceLeDiff, Nat.reduceEqDiff, Nat.reduceAdd, Nat.reduceMul, Nat.reduceDiv, Nat.reduceMod, Nat.le_refl, decide_eq_false_iff_not, Classical.not_not, true_and, and_true, false_and, and_false, not_true_eq_false, not_false_eq_true, forall_const, true_implies, false_implies, implies_true, ne_eq, e]
    have ih2 := ih (k + 1) (by omega)
    rw [iOr] at ih2
    refine ⟨fun z => absurd z (by omega), fun _ => ⟨by omega, ?_⟩⟩
    rcases hJ.1.fl k (by omega) with z | z
    · rw [if_neg (by
        rw [decide_eq_true_iff]
        intro y
        have := (sn_in hJ.1 (by omega)).mpr y
        rw [z] at this
        exact n10 this)] at ih2
      rw [z, ishl_0 k (by omega), ior_0]
      exact ih2
    · rw [if_pos (by rw [decide_eq_true_iff]; exact (sn_in hJ.1 (by omega)).mp z)] at ih2
      rw [z]
      exact ih2
end RPB3
