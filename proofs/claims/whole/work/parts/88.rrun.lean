/-! ===== the reference: run ===== -/
section RRUN
variable {sL d N a c B : Nat} {tp : Nat → Nat} {h : mH} {g : Gs} {p : Int32 → mH → Prop}
theorem dsF_len {N : Nat} {tp : Nat → Nat} : ∀ f a L, (dsF N tp f a).1 = some L → L.length ≤ f
  | 0, _, _, h => by cases h
  | f + 1, a, L, h => by
    unfold dsF at h
    split at h
    · split at h
      · dsimp only at h
        cases hq : (dsF N tp f ((rdD N tp a).2.1 + 1)).1 with
        | none => rw [hq] at h; cases h
        | some L2 =>
          rw [hq] at h
          cases h
          have := dsF_len f _ L2 hq
          show L2.length + 1 ≤ f + 1
          omega
      · split at h
        · cases h
        · cases h
          exact Nat.succ_le_succ (Nat.zero_le _)
    · cases h
theorem r_areDeeds (h15 : h (.inr 7) 15 = nI N) (hN : N ≤ 120) (htp : ∀ j, j < N → h (.inr 15) j = nI (tp j) ∧ tp j < 256) (hp0 : (dsF N tp 120 0).1 = none → ∀ h', FT h h' → h' (.inr 7) 17 = nI (dsF N tp 120 0).2 → p (nI 0) h') (hp1 : ∀ Ls, (dsF N tp 120 0).1 = some Ls → ∀ h', FT h h' → h' (.inr 7) 16 = nI Ls.length → (∀ i x, Ls[i]? = some x → TD h' i x) → p (nI 1) h') : mI (Kd sL (d + 4)) 184 [.inr (.inr (.inr 7))] h p := by
  refine ke_X4_areDeeds ?_
  refine EX.go (Kd_mono _ _) [false, true, false, false, false, false, false, false] 40 0 ?_
  dsimp only [wpc_s, wsl_t, wsl_f, gD_0, gD_s, ↓denB_n, pI_s, pG_s, pU_n, cb_X4_areDeeds_0, cb_X4_areDeeds_1, cb_X4_areDeeds_2, cb_X4_areDeeds_3, cb_X4_areDeeds_4, cb_X4_areDeeds_5, cb_X4_areDeeds_6, cb_X4_areDeeds_7, ↓ev_aload_n_0, ↓ev_iconst_0, ↓ev_putf_4_17, ↓ev_putf_4_16, ↓ev_callv_1_0_1, ↓ev_callv_1_1_1, ↓ev_callv_1_2_1, ↓ev_callv_1_3_1, ↓ev_callv_1_4_1, ↓ev_if_ne, ↓ev_zret, ↓ev_getf_4_17, ↓ev_getf_4_15, ↓ev_icmp_ne, ↓ev_iconst_1, ↓ev_getf_4_13, ↓ev_iald_o8, ↓ev_iald_o9, ↓ev_iald_o10, ↓ev_iald_o11, ↓ev_iald_o12, ↓ev_iald_o13, ↓ev_iald_o14, ↓ev_iald_o15, ↓ev_iald_o16, ↓ev_bipush_59, ↓ev_icmp_eq, ↓ev_dup, ↓ev_dupr, ↓ev_iadd, ↓ev_goto, Nat.reduceAdd]
  suffices H : ∀ (f a c : Nat) (h2 : mH), c + f = 120 → 2 * c ≤ a → TQ h2 N tp a c → FT h h2 → ((dsF N tp f a).1 = none → ∀ h', FT h h' → h' (.inr 7) 17 = nI (dsF N tp f a).2 → p (nI 0) h') → (∀ Ls, (dsF N tp f a).1 = some Ls → ∀ h', FT h h' → (∀ j, j < 4 * c → h' (.inr 16) j = h2 (.inr 16) j) → h' (.inr 7) 16 = nI (c + Ls.length) → (∀ i x, Ls[i]? = some x → TD h' (c + i) x) → p (nI 1) h') → EX (Kd sL (d + 3)) sL md_X4_areDeeds (pI p) 1 [some (.inr (.inr (.inr 7)))] [] h2 by
    refine H 120 0 0 _ rfl (Nat.le_refl _) ⟨?_, ?_, ?_, hN, Nat.zero_le _, by decide, fun j hj => ?_⟩ ((FT.u (Or.inr rfl)).tr (FT.u (Or.inl rfl))) hp0 (fun Ls h1 h' f1 _ f2 f3 => hp1 Ls h1 h' f1 (by rw [Nat.zero_add] at f2; exact f2) (fun i x hx => by have := f3 i x hx; rw [Nat.zero_add] at this; exact this))
    · rw [hup_idx (by decide), hup_idx (by decide)]; exact h15
    · rw [hup_idx (by decide), hup_same]
    · rw [hup_same]
    · rw [hup_other (by simp), hup_other (by simp)]; exact htp j hj
  intro f
  induction f with
  | zero =>
    intro a c h2 hc _ T2 _ _ _
    have := T2.2.2.2.2.2.1
    omega
  | succ f ih =>
    intro a c h2 hc hac T2 o2 k0 k1
    refine EX.go (Kd_mono _ _) [false, true, false, false, false, false, false, false] 40 1 ?_
    dsimp only [wpc_s, wsl_t, wsl_f, gD_0, gD_s, ↓denB_n, pI_s, pG_s, pU_n, cb_X4_areDeeds_0, cb_X4_areDeeds_1, cb_X4_areDeeds_2, cb_X4_areDeeds_3, cb_X4_areDeeds_4, cb_X4_areDeeds_5, cb_X4_areDeeds_6, cb_X4_areDeeds_7, ↓ev_aload_n_0, ↓ev_iconst_0, ↓ev_putf_4_17, ↓ev_putf_4_16, ↓ev_callv_1_0_1, ↓ev_callv_1_1_1, ↓ev_callv_1_2_1, ↓ev_callv_1_3_1, ↓ev_callv_1_4_1, ↓ev_if_ne, ↓ev_zret, ↓ev_getf_4_17, ↓ev_getf_4_15, ↓ev_icmp_ne, ↓ev_iconst_1, ↓ev_getf_4_13, ↓ev_iald_o8, ↓ev_iald_o9, ↓ev_iald_o10, ↓ev_iald_o11, ↓ev_iald_o12, ↓ev_iald_o13, ↓ev_iald_o14, ↓ev_iald_o15, ↓ev_iald_o16, ↓ev_bipush_59, ↓ev_icmp_eq, ↓ev_dup, ↓ev_dupr, ↓ev_iadd, ↓ev_goto, Nat.reduceAdd]
    have hle := rdD_le N tp a
    have hN2 := rdD_N (N := N) (tp := tp) T2.2.2.2.2.1
    unfold dsF at k0 k1
    refine r_isDeed T2 (fun z h3 o3 T3 u3 => ?_) (fun z h3 o3 e17 e16 u3 t3 => ?_)
    · rw [if_neg (by rw [z]; decide)] at k0
      exact ⟨fun y => absurd rfl y, fun _ => ⟨Or.inl rfl, k0 rfl h3 (o2.tr o3) T3.2.1⟩⟩
    · rw [if_pos z] at k0 k1
      refine ⟨fun _ => ?_, fun y => absurd y (by decide)⟩
      have e15 : h3 (.inr 7) 15 = nI N := by rw [o3.2 _ (by decide) (by decide)]; exact T2.1
      have hpos := (hle.2.2 z).1
      have etp : ∀ j, j < N → h3 (.inr 15) j = nI (tp j) ∧ tp j < 256 := fun j hj => by
        rw [o3.1 _ (by simp) (by simp)]
        exact T2.2.2.2.2.2.2 j hj
      rw [e17, e15]
      generalize (rdD N tp a).2.1 = a' at hN2 e17 k0 k1 hpos ⊢
      generalize (rdD N tp a).2.2 = x at t3 k1
      try simp (disch := omega) only [pk_mul, nI_add, n_lt0, n_le0, n_eq0, n_ge0, n_gt0, n_lt, n_le, n_eq, n_in, n_div, n_rem, n_rem2, n_m1, nI_clamp, bz_0, bz_1, tI_0, tI_bz, n4, n16, eq_self, Nat.reduceLT, Nat.reduceLeDiff, Nat.reduceEqDiff, Nat.reduceAdd, Nat.reduceMul, Nat.reduceDiv, Nat.reduceMod, Nat.le_refl, decide_eq_false_iff_not, Classical.not_not, true_and, and_true, false_and, and_false, not_true_eq_false, not_false_eq_true, forall_const, true_implies, false_implies, implies_true, ne_eq]
      refine ⟨fun y => ⟨by omega, ?_⟩, fun y => ?_⟩
      · obtain ⟨w1, w2⟩ := etp a' (by omega)
        rw [w1]
        try simp (disch := omega) only [pk_mul, nI_add, n_lt0, n_le0, n_eq0, n_ge0, n_gt0, n_lt, n_le, n_eq, n_in, n_div, n_rem, n_rem2, n_m1, nI_clamp, bz_0, bz_1, tI_0, tI_bz, n4, n16, eq_self, Nat.reduceLT, Nat.reduceLeDiff, Nat.reduceEqDiff, Nat.reduceAdd, Nat.reduceMul, Nat.reduceDiv, Nat.reduceMod, Nat.le_refl, decide_eq_false_iff_not, Classical.not_not, true_and, and_true, false_and, and_false, not_true_eq_false, not_false_eq_true, forall_const, true_implies, false_implies, implies_true, ne_eq]
        refine ⟨fun y2 => ?_, fun y2 => ?_⟩
        · rw [if_pos ⟨by omega, y2⟩] at k0 k1
          dsimp only at k0 k1
          refine ih (a' + 1) (c + 1) _ (by omega) (by omega) ⟨?_, hup_same, ?_, hN, by omega, by omega, fun j hj => ?_⟩ (o2.tr (o3.tr (FT.u (Or.inr rfl)))) (fun w h' f1 f2 => ?_) (fun Ls w h' f1 f2 f3 f4 => ?_)
          · rw [hup_idx (by decide)]; exact e15
          · rw [hup_idx (by decide)]; exact e16
          · rw [hup_other (by simp)]; exact etp j hj
          · exact k0 (by rw [w]; rfl) h' f1 f2
          · refine k1 (x :: Ls) (by rw [w]; rfl) h' f1 (fun j hj => ?_) ?_ (fun i y2 hy => ?_)
            · rw [f2 j (by omega), hup_other (by simp)]; exact u3 j hj
            · rw [f3, List.length_cons]; congr 1; omega
            · cases i with
              | zero =>
                cases hy
                exact t3.o (fun j j1 j2 => by rw [f2 j (by omega), hup_other (by simp)])
              | succ i =>
                have := f4 i y2 hy
                rw [show c + (i + 1) = c + 1 + i by omega]
                exact this
        · rw [if_neg (fun w => y2 w.2), if_pos (by omega)] at k0
          exact k0 rfl h3 (o2.tr o3) e17
      · have hne : ¬ a' < N := by omega
        rw [if_neg (fun w => hne w.1), if_neg hne] at k1
        refine k1 [x] rfl h3 (o2.tr o3) (fun j hj => u3 j hj) e16 (fun i y2 hy => ?_)
        cases i with
        | zero => cases hy; exact t3
        | succ i => cases hy
theorem ltr_inv : ∀ b, b < 256 → (ltr b = 0 → b = 119) ∧ (ltr b = 1 → b = 115) ∧ (ltr b = 2 → b = 100) ∧ (ltr b = 3 → b = 114) ∧ (ltr b = 4 → b = 103) ∧ (ltr b = 5 → b = 109) ∧ (ltr b = 6 → b = 102) := by decide +kernel
theorem r_does {i : Nat} {x : Dd} (hG : RG h g) (hJ : JG B g) (hB : B < 2 ^ 29) (hi : i < 120) (hT : TD h i x) (hp : ∀ h', FD h h' → RG h' (aDeed g x.1 (nI (x.2 0)) (nI (x.2 1)) (nI (x.2 2))).2 → p (aDeed g x.1 (nI (x.2 0)) (nI (x.2 1)) (nI (x.2 2))).1 h') : mI (Kd sL (d + 11)) 185 [.inr (.inr (.inr 7)), .inl (nI i)] h p := by
  obtain ⟨kd, ns⟩ := x
  obtain ⟨⟨b, hb, hlb, e0⟩, h7, hk, hz⟩ := hT
  dsimp only at hlb h7 hk hz hp
  obtain ⟨i0, i1, i2, i3, i4, i5, i6⟩ := ltr_inv b hb
  refine ke_X4_does ?_
  refine EX.go (Kd_mono _ _) [false, false, false, false, false, false, false, false] 40 0 ?_
  dsimp only [wpc_s, wsl_t, wsl_f, gD_0, gD_s, ↓denB_n, pI_s, pG_s, pU_n, cb_X4_does_0, cb_X4_does_1, cb_X4_does_2, cb_X4_does_3, cb_X4_does_4, cb_X4_does_5, cb_X4_does_6, cb_X4_does_7, ↓ev_aload_n_0, ↓ev_getf_4_14, ↓ev_iconst_4, ↓ev_iload_n_1, ↓ev_imul, ↓ev_iconst_1, ↓ev_iadd, ↓ev_iald_o8, ↓ev_iald_o9, ↓ev_iald_o10, ↓ev_iald_o11, ↓ev_iald_o12, ↓ev_iald_o13, ↓ev_iald_o14, ↓ev_iald_o15, ↓ev_iald_o16, ↓ev_istore_n_2, ↓ev_iconst_2, ↓ev_istore_n_3, ↓ev_tsw_100_20, ↓ev_iload_n_2, ↓ev_iload_n_3, ↓ev_iconst_3, ↓ev_callv_4_0_1, ↓ev_callv_4_1_1, ↓ev_callv_4_2_1, ↓ev_callv_4_3_1, ↓ev_callv_4_4_1, ↓ev_iret, ↓ev_callv_2_0_1, ↓ev_callv_2_1_1, ↓ev_callv_2_2_1, ↓ev_callv_2_3_1, ↓ev_callv_2_4_1, ↓ev_callv_3_0_1, ↓ev_callv_3_1_1, ↓ev_callv_3_2_1, ↓ev_callv_3_3_1, ↓ev_callv_3_4_1, ↓ev_callv_3_5_1, ↓ev_callv_1_0_1, ↓ev_callv_1_1_1, ↓ev_callv_1_2_1, ↓ev_callv_1_3_1, ↓ev_callv_1_4_1, Nat.reduceAdd]
  rcases (show kd = 0 ∨ kd = 1 ∨ kd = 2 ∨ kd = 3 ∨ kd = 4 ∨ kd = 5 ∨ kd = 6 by omega) with rfl | rfl | rfl | rfl | rfl | rfl | rfl
  · have eb := i0 hlb
    subst eb
    have k0 := hk 0 (by decide)
    have k1 := hk 1 (by decide)
    have k2 := hk 2 (by decide)
    rw [Nat.add_zero] at k0
    try simp (disch := omega) only [pk_mul, nI_add, n_lt0, n_le0, n_eq0, n_ge0, n_gt0, n_lt, n_le, n_eq, n_in, n_div, n_rem, n_rem2, n_m1, nI_clamp, bz_0, bz_1, tI_0, tI_bz, n4, n16, eq_self, Nat.reduceLT, Nat.reduceLeDiff, Nat.reduceEqDiff, Nat.reduceAdd, Nat.reduceMul, Nat.reduceDiv, Nat.reduceMod, Nat.le_refl, decide_eq_false_iff_not, Classical.not_not, true_and, and_true, false_and, and_false, not_true_eq_false, not_false_eq_true, forall_const, true_implies, false_implies, implies_true, ne_eq, e0, k0, k1, k2]
    exact ⟨by omega, by omega, by omega, by omega, r_write hG hJ hB hp⟩
  · have eb := i1 hlb
    subst eb
    have k0 := hk 0 (by decide)
    rw [Nat.add_zero] at k0
    rw [hz 1 (by decide), hz 2 (by decide)] at hp
    try simp (disch := omega) only [pk_mul, nI_add, n_lt0, n_le0, n_eq0, n_ge0, n_gt0, n_lt, n_le, n_eq, n_in, n_div, n_rem, n_rem2, n_m1, nI_clamp, bz_0, bz_1, tI_0, tI_bz, n4, n16, eq_self, Nat.reduceLT, Nat.reduceLeDiff, Nat.reduceEqDiff, Nat.reduceAdd, Nat.reduceMul, Nat.reduceDiv, Nat.reduceMod, Nat.le_refl, decide_eq_false_iff_not, Classical.not_not, true_and, and_true, false_and, and_false, not_true_eq_false, not_false_eq_true, forall_const, true_implies, false_implies, implies_true, ne_eq, e0, k0]
    exact ⟨by omega, by omega, by omega, r_snap hG hJ hB hp⟩
  · have eb := i2 hlb
    subst eb
    have k0 := hk 0 (by decide)
    rw [Nat.add_zero] at k0
    rw [hz 1 (by decide), hz 2 (by decide)] at hp
    try simp (disch := omega) only [pk_mul, nI_add, n_lt0, n_le0, n_eq0, n_ge0, n_gt0, n_lt, n_le, n_eq, n_in, n_div, n_rem, n_rem2, n_m1, nI_clamp, bz_0, bz_1, tI_0, tI_bz, n4, n16, eq_self, Nat.reduceLT, Nat.reduceLeDiff, Nat.reduceEqDiff, Nat.reduceAdd, Nat.reduceMul, Nat.reduceDiv, Nat.reduceMod, Nat.le_refl, decide_eq_false_iff_not, Classical.not_not, true_and, and_true, false_and, and_false, not_true_eq_false, not_false_eq_true, forall_const, true_implies, false_implies, implies_true, ne_eq, e0, k0]
    exact ⟨by omega, by omega, by omega, r_drop hG hJ hB hp⟩
  · have eb := i3 hlb
    subst eb
    have k0 := hk 0 (by decide)
    rw [Nat.add_zero] at k0
    rw [hz 1 (by decide), hz 2 (by decide)] at hp
    try simp (disch := omega) only [pk_mul, nI_add, n_lt0, n_le0, n_eq0, n_ge0, n_gt0, n_lt, n_le, n_eq, n_in, n_div, n_rem, n_rem2, n_m1, nI_clamp, bz_0, bz_1, tI_0, tI_bz, n4, n16, eq_self, Nat.reduceLT, Nat.reduceLeDiff, Nat.reduceEqDiff, Nat.reduceAdd, Nat.reduceMul, Nat.reduceDiv, Nat.reduceMod, Nat.le_refl, decide_eq_false_iff_not, Classical.not_not, true_and, and_true, false_and, and_false, not_true_eq_false, not_false_eq_true, forall_const, true_implies, false_implies, implies_true, ne_eq, e0, k0]
    exact ⟨by omega, by omega, by omega, r_revert hG hJ hB hp⟩
  · have eb := i4 hlb
    subst eb
    have k0 := hk 0 (by decide)
    have k1 := hk 1 (by decide)
    rw [Nat.add_zero] at k0
    rw [hz 2 (by decide)] at hp
    try simp (disch := omega) only [pk_mul, nI_add, n_lt0, n_le0, n_eq0, n_ge0, n_gt0, n_lt, n_le, n_eq, n_in, n_div, n_rem, n_rem2, n_m1, nI_clamp, bz_0, bz_1, tI_0, tI_bz, n4, n16, eq_self, Nat.reduceLT, Nat.reduceLeDiff, Nat.reduceEqDiff, Nat.reduceAdd, Nat.reduceMul, Nat.reduceDiv, Nat.reduceMod, Nat.le_refl, decide_eq_false_iff_not, Classical.not_not, true_and, and_true, false_and, and_false, not_true_eq_false, not_false_eq_true, forall_const, true_implies, false_implies, implies_true, ne_eq, e0, k0, k1]
    exact ⟨by omega, by omega, by omega, r_giveUp hG hJ hB hp⟩
  · have eb := i5 hlb
    subst eb
    have k0 := hk 0 (by decide)
    rw [Nat.add_zero] at k0
    rw [hz 1 (by decide), hz 2 (by decide)] at hp
    try simp (disch := omega) only [pk_mul, nI_add, n_lt0, n_le0, n_eq0, n_ge0, n_gt0, n_lt, n_le, n_eq, n_in, n_div, n_rem, n_rem2, n_m1, nI_clamp, bz_0, bz_1, tI_0, tI_bz, n4, n16, eq_self, Nat.reduceLT, Nat.reduceLeDiff, Nat.reduceEqDiff, Nat.reduceAdd, Nat.reduceMul, Nat.reduceDiv, Nat.reduceMod, Nat.le_refl, decide_eq_false_iff_not, Classical.not_not, true_and, and_true, false_and, and_false, not_true_eq_false, not_false_eq_true, forall_const, true_implies, false_implies, implies_true, ne_eq, e0, k0]
    exact ⟨by omega, by omega, by omega, r_merge hG hJ hB hp⟩
  · have eb := i6 hlb
    subst eb
    rw [hz 0 (by decide), hz 1 (by decide), hz 2 (by decide)] at hp
    try simp (disch := omega) only [pk_mul, nI_add, n_lt0, n_le0, n_eq0, n_ge0, n_gt0, n_lt, n_le, n_eq, n_in, n_div, n_rem, n_rem2, n_m1, nI_clamp, bz_0, bz_1, tI_0, tI_bz, n4, n16, eq_self, Nat.reduceLT, Nat.reduceLeDiff, Nat.reduceEqDiff, Nat.reduceAdd, Nat.reduceMul, Nat.reduceDiv, Nat.reduceMod, Nat.le_refl, decide_eq_false_iff_not, Classical.not_not, true_and, and_true, false_and, and_false, not_true_eq_false, not_false_eq_true, forall_const, true_implies, false_implies, implies_true, ne_eq, e0]
    exact ⟨by omega, by omega, by omega, r_fold hG hJ hB hp⟩
theorem aDeed_gtp {kd n : Nat} {a b c : Int32} {f : Nat → Nat} : aDeed (gtp g n f) kd a b c = ((aDeed g kd a b c).1, gtp (aDeed g kd a b c).2 n f) := by
  unfold aDeed
  show (if dec (fit g.1 kd a b c) then (if lk g.1 || dec (hin g.1 kd a) then rfA (gtp g n f) 2 else if rnd g.1 kd a b then rfA (gtp g n f) 3 else if (tau g.1 kd a b c).2.2 = 2 then rfA (gtp g n f) 1 else dne (gtp g n f) (tau2 g.1 kd a b c)) else rfA (gtp g n f) 0) = _
  split
  · split
    · rfl
    · split
      · rfl
      · split
        · rfl
        · rfl
  · rfl
theorem jg_gtp {n : Nat} {f : Nat → Nat} (h : JG B g) (hn : n ≤ 120) (hf : ∀ j, j < n → f j < 256) : JG B (gtp g n f) := ⟨h.1, h.2.1, h.2.2.1, hf, hn⟩
theorem r_run (hG : RG h g) (hJ : JG B g) (hB : B + 900 * 121 < 2 ^ 29) (hp : ∀ h', FR h h' → RG h' (aRun g).2 → p (aRun g).1 h') : mI (Kd sL (d + 12)) 186 [.inr (.inr (.inr 7))] h p := by
  refine ke_X4_run ?_
  refine EX.go (Kd_mono _ _) [false, false, false, true, false, false, false, false] 40 0 ?_
  dsimp only [wpc_s, wsl_t, wsl_f, gD_0, gD_s, ↓denB_n, pI_s, pG_s, pU_n, cb_X4_run_0, cb_X4_run_1, cb_X4_run_2, cb_X4_run_3, cb_X4_run_4, cb_X4_run_5, cb_X4_run_6, cb_X4_run_7, ↓ev_aload_n_0, ↓ev_callv_1_0_1, ↓ev_callv_1_1_1, ↓ev_callv_1_2_1, ↓ev_callv_1_3_1, ↓ev_callv_1_4_1, ↓ev_istore_n_1, ↓ev_iconst_0, ↓ev_putf_4_15, ↓ev_iload_n_1, ↓ev_if_ne, ↓ev_bipush_m10, ↓ev_getf_4_17, ↓ev_isub, ↓ev_iret, ↓ev_istore_n_2, ↓ev_iload_n_2, ↓ev_getf_4_16, ↓ev_icmp_ge, ↓ev_callv_2_0_1, ↓ev_callv_2_1_1, ↓ev_callv_2_2_1, ↓ev_callv_2_3_1, ↓ev_callv_2_4_1, ↓ev_if_ge, ↓ev_sipush_m300, ↓ev_iinc_2_1, ↓ev_goto, Nat.reduceAdd]
  unfold aRun at hp
  have hN : g.2.2.2.2.2.1 ≤ 120 := hG.2.2.2.2.2.2.1
  have hG8 := hG.2.2.2.2.2.2.2
  have hJ4 := hJ.2.2.2.1
  refine r_areDeeds (N := g.2.2.2.2.2.1) (tp := g.2.2.2.2.2.2) hG.2.2.2.2.2.1 hN (fun j hj => ⟨hG8 j hj, hJ4 j hj⟩) (fun z h1 o1 e1 => ?_) (fun Ls z h1 o1 e1 t1 => ?_)
  · rw [z] at hp
    dsimp only at hp
    refine ⟨fun y => absurd rfl y, fun _ => ?_⟩
    rw [hup_idx (by decide), e1]
    have hG1 := hG.ft o1
    refine hp _ (o1.fr.tr (fr_up (by decide) (by decide))) (hG1.tp (fun r p1 _ => by funext j; exact hup_other p1 j) (fun j hj => hup_idx hj) hup_same (Nat.zero_le _) (fun j hj => absurd hj (Nat.not_lt_zero j)))
  · rw [z] at hp
    dsimp only at hp
    refine ⟨fun _ => ?_, fun y => absurd y (by decide)⟩
    have hlen := dsF_len 120 0 Ls z
    have hG1 := hG.ft o1
    have hG2 : RG (hup h1 (.inr 7) 15 (nI 0)) (gtp g 0 g.2.2.2.2.2.2) := hG1.tp (fun r p1 _ => by funext j; exact hup_other p1 j) (fun j hj => hup_idx hj) hup_same (Nat.zero_le _) (fun j hj => absurd hj (Nat.not_lt_zero j))
    generalize htpe : g.2.2.2.2.2.2 = tp at hp hG2
    generalize hT : Ls.length = T at e1 hlen
    suffices H : ∀ (Lr : List Dd) (i : Nat) (g' : Gs) (h2 : mH), i + Lr.length = T → JG (B + 900 * i) g' → FR h h2 → RG h2 (gtp g' 0 tp) → h2 (.inr 7) 16 = nI T → (∀ j x, Lr[j]? = some x → TD h2 (i + j) x) → (∀ h', FR h h' → RG h' (gtp (exF Lr i g').2 0 tp) → p (exF Lr i g').1 h') → EX (Kd sL (d + 11)) sL md_X4_run (pI p) 3 [some (.inr (.inr (.inr 7))), some (.inl (nI 1)), some (.inl (nI i))] [] h2 by
      refine H Ls 0 g _ (by omega) hJ (o1.fr.tr (fr_up (by decide) (by decide))) hG2 (by rw [hup_idx (by decide)]; exact e1) (fun j x hx => ?_) hp
      rw [Nat.zero_add]
      exact (t1 j x hx).o (fun k _ _ => hup_other (by simp) k)
    intro Lr
    induction Lr with
    | nil =>
      intro i g' h2 hi hJ2 o2 G2 e2 t2 hp
      refine EX.go (Kd_mono _ _) [false, false, false, true, false, false, false, false] 40 3 ?_
      dsimp only [wpc_s, wsl_t, wsl_f, gD_0, gD_s, ↓denB_n, pI_s, pG_s, pU_n, cb_X4_run_0, cb_X4_run_1, cb_X4_run_2, cb_X4_run_3, cb_X4_run_4, cb_X4_run_5, cb_X4_run_6, cb_X4_run_7, ↓ev_aload_n_0, ↓ev_callv_1_0_1, ↓ev_callv_1_1_1, ↓ev_callv_1_2_1, ↓ev_callv_1_3_1, ↓ev_callv_1_4_1, ↓ev_istore_n_1, ↓ev_iconst_0, ↓ev_putf_4_15, ↓ev_iload_n_1, ↓ev_if_ne, ↓ev_bipush_m10, ↓ev_getf_4_17, ↓ev_isub, ↓ev_iret, ↓ev_istore_n_2, ↓ev_iload_n_2, ↓ev_getf_4_16, ↓ev_icmp_ge, ↓ev_callv_2_0_1, ↓ev_callv_2_1_1, ↓ev_callv_2_2_1, ↓ev_callv_2_3_1, ↓ev_callv_2_4_1, ↓ev_if_ge, ↓ev_sipush_m300, ↓ev_iinc_2_1, ↓ev_goto, Nat.reduceAdd]
      rw [e2]
      have hi2 : i = T := hi
      subst hi2
      try simp (disch := omega) only [pk_mul, nI_add, n_lt0, n_le0, n_eq0, n_ge0, n_gt0, n_lt, n_le, n_eq, n_in, n_div, n_rem, n_rem2, n_m1, nI_clamp, bz_0, bz_1, tI_0, tI_bz, n4, n16, eq_self, Nat.reduceLT, Nat.reduceLeDiff, Nat.reduceEqDiff, Nat.reduceAdd, Nat.reduceMul, Nat.reduceDiv, Nat.reduceMod, Nat.le_refl, decide_eq_false_iff_not, Classical.not_not, true_and, and_true, false_and, and_false, not_true_eq_false, not_false_eq_true, forall_const, true_implies, false_implies, implies_true, ne_eq]
      exact hp h2 o2 G2
    | cons x Lr ih =>
      intro i g' h2 hi hJ2 o2 G2 e2 t2 hp
      rw [List.length_cons] at hi
      refine EX.go (Kd_mono _ _) [false, false, false, true, false, false, false, false] 40 3 ?_
      dsimp only [wpc_s, wsl_t, wsl_f, gD_0, gD_s, ↓denB_n, pI_s, pG_s, pU_n, cb_X4_run_0, cb_X4_run_1, cb_X4_run_2, cb_X4_run_3, cb_X4_run_4, cb_X4_run_5, cb_X4_run_6, cb_X4_run_7, ↓ev_aload_n_0, ↓ev_callv_1_0_1, ↓ev_callv_1_1_1, ↓ev_callv_1_2_1, ↓ev_callv_1_3_1, ↓ev_callv_1_4_1, ↓ev_istore_n_1, ↓ev_iconst_0, ↓ev_putf_4_15, ↓ev_iload_n_1, ↓ev_if_ne, ↓ev_bipush_m10, ↓ev_getf_4_17, ↓ev_isub, ↓ev_iret, ↓ev_istore_n_2, ↓ev_iload_n_2, ↓ev_getf_4_16, ↓ev_icmp_ge, ↓ev_callv_2_0_1, ↓ev_callv_2_1_1, ↓ev_callv_2_2_1, ↓ev_callv_2_3_1, ↓ev_callv_2_4_1, ↓ev_if_ge, ↓ev_sipush_m300, ↓ev_iinc_2_1, ↓ev_goto, Nat.reduceAdd]
      rw [e2]
      try simp (disch := omega) only [pk_mul, nI_add, n_lt0, n_le0, n_eq0, n_ge0, n_gt0, n_lt, n_le, n_eq, n_in, n_div, n_rem, n_rem2, n_m1, nI_clamp, bz_0, bz_1, tI_0, tI_bz, n4, n16, eq_self, Nat.reduceLT, Nat.reduceLeDiff, Nat.reduceEqDiff, Nat.reduceAdd, Nat.reduceMul, Nat.reduceDiv, Nat.reduceMod, Nat.le_refl, decide_eq_false_iff_not, Classical.not_not, true_and, and_true, false_and, and_false, not_true_eq_false, not_false_eq_true, forall_const, true_implies, false_implies, implies_true, ne_eq]
      refine ⟨fun y => absurd y (by omega), fun _ => ?_⟩
      have hx := t2 0 x rfl
      rw [Nat.add_zero] at hx
      refine r_does G2 (jg_gtp hJ2 (Nat.zero_le _) (fun j hj => absurd hj (Nat.not_lt_zero j))) (by omega) (by omega) hx (fun h3 o3 G3 => ?_)
      rw [aDeed_gtp] at G3 ⊢
      dsimp only at G3 ⊢
      unfold exF at hp
      have hJ3 := jg_deed (a := nI (x.2 0)) (b := nI (x.2 1)) (c := nI (x.2 2)) hJ2 (by omega) (show x.1 < 8 by have := hx.2.1; omega)
      generalize aDeed g' x.1 (nI (x.2 0)) (nI (x.2 1)) (nI (x.2 2)) = R at G3 hp hJ3 ⊢
      refine ⟨fun y => ?_, fun y => ?_⟩
      · rw [if_neg (Int32.not_lt.mpr y)] at hp
        refine ih (i + 1) R.2 h3 (by omega) (by rw [show B + 900 * (i + 1) = B + 900 * i + 900 by omega]; exact hJ3) (o2.tr o3.fr) G3 (by rw [o3.2 _ (by decide) (by decide) (by decide) (by decide) (by decide)]; exact e2) (fun j y2 hy => ?_) hp
        have := t2 (j + 1) y2 hy
        rw [show i + 1 + j = i + (j + 1) by omega]
        exact this.o (fun k _ _ => by rw [o3.1 _ (by simp) (by simp) (by simp) (by simp) (by simp) (by simp) (by simp)])
      · rw [if_pos (Int32.not_le.mp y)] at hp
        exact hp h3 (o2.tr o3.fr) G3
end RRUN
