/-! ===== the reference: its deeds, write by write ===== -/
def RR (h : mH) (L : Nat) (σ : Sg) : Prop := RS h σ.1 ∧ h (.inr 7) 7 = nI σ.2.1 ∧ h (.inr 7) 8 = nI L ∧ h (.inr 7) 9 = tI (decide (σ.2.2 = 1)) ∧ h (.inr 7) 10 = tI (decide (σ.2.2 = 2)) ∧ σ.2.1 ≤ L ∧ L < 2 ^ 32 ∧ σ.2.2 ≤ 2
def OC (h h' : mH) : Prop := (∀ r, r ≠ .inr 7 → r ≠ .inr 8 → h' r = h r) ∧ ∀ j, j ≠ 7 → j ≠ 9 → j ≠ 10 → h' (.inr 7) j = h (.inr 7) j
theorem OC.rf {h : mH} : OC h h := ⟨fun _ _ _ => rfl, fun _ _ _ _ => rfl⟩
theorem OC.tr {h h1 h2 : mH} (a : OC h h1) (b : OC h1 h2) : OC h h2 := ⟨fun r p q => (b.1 r p q).trans (a.1 r p q), fun j p q t => (b.2 j p q t).trans (a.2 j p q t)⟩
theorem OC.u8 {h : mH} {k : Nat} {v : Int32} : OC h (hup h (.inr 8) k v) := ⟨fun r _ q => by funext j; exact hup_other q j, fun j _ _ _ => hup_other (by simp) j⟩
theorem OC.u7 {h : mH} {k : Nat} {v : Int32} (hk : k = 7 ∨ k = 9 ∨ k = 10) : OC h (hup h (.inr 7) k v) := ⟨fun r q _ => by funext j; exact hup_other q j, fun j p q t => hup_idx (by omega)⟩
theorem RS.up {h : mH} {S : St} {k : Nat} {v : Int32} (hS : RS h S) : RS (hup h (.inr 8) k v) (upd S k v) := fun j hj => by
  by_cases q : j = k
  · subst q; rw [hup_same, pk_us]
  · rw [hup_idx q, pk_un q]; exact hS j hj
theorem RS.ot {h : mH} {S : St} {r : mRef} {k : Nat} {v : Int32} (hS : RS h S) (hr : r ≠ .inr 8) : RS (hup h r k v) S := fun j hj => by
  rw [hup_other (Ne.symm hr)]; exact hS j hj
theorem RR.up {h : mH} {L : Nat} {σ : Sg} {k : Nat} {v : Int32} (hR : RR h L σ) : RR (hup h (.inr 8) k v) L (upd σ.1 k v, σ.2) := by
  obtain ⟨h1, h2, h3, h4, h5, h6⟩ := hR
  refine ⟨h1.up, ?_, ?_, ?_, ?_, h6⟩
  all_goals (rw [hup_other (by simp)]; assumption)
theorem n_eq32 {a b : Nat} (ha : a < 2 ^ 32) (hb : b < 2 ^ 32) : (nI a = nI b) = (a = b) := by
  apply propext
  constructor
  · intro e
    have h1 := congrArg (fun x => x.toBitVec.toNat) e
    have e2 : ∀ n, (nI n).toBitVec.toNat = n % 2 ^ 32 := fun n => by
      show (BitVec.ofNat 32 n).toNat = n % 2 ^ 32
      simp
    simp only [e2] at h1
    omega
  · intro e
    rw [e]
theorem gt_cg {L : Nat} {f f' : St → St} {σ : Sg} (h : σ.2.2 = 0 → f σ.1 = f' σ.1) : gt L f σ = gt L f' σ := by
  by_cases q : σ.2.2 = 0 ∧ σ.2.1 < L
  · rw [gt_yes q.1 q.2, gt_yes q.1 q.2, h q.1]
  · rw [gt_no q, gt_no (f := f') q]
def four (S : St) (c : Nat) (a b x y : Int32) : St := upd (upd (upd (upd S (64 + 4 * c) a) (64 + 4 * c + 1) b) (64 + 4 * c + 2) x) (64 + 4 * c + 3) y
theorem four_out {S : St} {c j : Nat} {a b x y : Int32} (h : ¬ (64 + 4 * c ≤ j ∧ j < 64 + 4 * c + 4)) : four S c a b x y j = S j := by
  unfold four
  rw [pk_un (by omega), pk_un (by omega), pk_un (by omega), pk_un (by omega)]
theorem four_eq {S S' : St} {c : Nat} {a b x y : Int32} (ho : ∀ j, ¬ (64 + 4 * c ≤ j ∧ j < 64 + 4 * c + 4) → S' j = S j) (h0 : S' (64 + 4 * c) = a) (h1 : S' (64 + 4 * c + 1) = b) (h2 : S' (64 + 4 * c + 2) = x) (h3 : S' (64 + 4 * c + 3) = y) : four S c a b x y = S' := by
  funext j
  by_cases q : 64 + 4 * c ≤ j ∧ j < 64 + 4 * c + 4
  · unfold four
    rcases (show j = 64 + 4 * c ∨ j = 64 + 4 * c + 1 ∨ j = 64 + 4 * c + 2 ∨ j = 64 + 4 * c + 3 by omega) with rfl | rfl | rfl | rfl
    · rw [pk_un (by omega), pk_un (by omega), pk_un (by omega), pk_us, h0]
    · rw [pk_un (by omega), pk_un (by omega), pk_us, h1]
    · rw [pk_un (by omega), pk_us, h2]
    · rw [pk_us, h3]
  · rw [four_out q, ho j q]
section RW
variable {sL d L : Nat} {h : mH} {σ : Sg} {p : Int32 → mH → Prop} {q : mH → Prop}
set_option maxHeartbeats 1000000 in
theorem r_may (hR : RR h L σ) (h0 : ∀ h', OC h h' → RR h' L (gt L (fun S => S) σ) → ¬ (σ.2.2 = 0 ∧ σ.2.1 < L) → p (nI 0) h') (h1 : ∀ h', OC h h' → σ.2.2 = 0 → σ.2.1 < L → RR h' L (σ.1, σ.2.1 + 1, 0) → p (nI 1) h') : mI (Kd sL (d + 1)) 122 [.inr (.inr (.inr 7))] h p := by
  refine ke_X4_may ?_
  refine EX.go (Kd_mono _ _) [false, false, false, false, false, false, false, false, false, false, false, false, false] 40 0 ?_
  dsimp only [wpc_s, wsl_t, wsl_f, gD_0, gD_s, ↓denB_n, pI_s, pG_s, pU_n, cb_X4_may_0, cb_X4_may_1, cb_X4_may_2, cb_X4_may_3, cb_X4_may_4, cb_X4_may_5, cb_X4_may_6, cb_X4_may_7, cb_X4_may_8, cb_X4_may_9, cb_X4_may_10, cb_X4_may_11, cb_X4_may_12, ↓ev_aload_n_0, ↓ev_getf_4_9, ↓ev_if_ne, ↓ev_getf_4_10, ↓ev_if_eq, ↓ev_iconst_0, ↓ev_zret, ↓ev_getf_4_7, ↓ev_getf_4_8, ↓ev_icmp_ne, ↓ev_iconst_1, ↓ev_goto, ↓ev_putf_4_9, ↓ev_dup, ↓ev_dupr, ↓ev_iadd, ↓ev_putf_4_7, Nat.reduceAdd]
  obtain ⟨e8, e7, eL, e9, e10, hle, hL, hk⟩ := id hR
  have q1 : ∀ v, hup h (.inr 7) 9 v (.inr 7) 9 = v := fun v => hup_same
  have q2 : ∀ v, hup h (.inr 7) 9 v (.inr 7) 7 = nI σ.2.1 := fun v => by rw [hup_idx (by decide), e7]
  have q3 : ∀ v w, hup (hup h (.inr 7) 9 v) (.inr 7) 7 w (.inr 7) 9 = v := fun v w => by rw [hup_idx (by decide), hup_same]
  by_cases c : σ.2.2 = 0
  · have e9 : h (.inr 7) 9 = nI 0 := by rw [e9, c]; rfl
    have e10 : h (.inr 7) 10 = nI 0 := by rw [e10, c]; rfl
    by_cases c2 : σ.2.1 < L
    · have hne : ¬ nI σ.2.1 = nI L := by rw [n_eq32 (by omega) (by omega)]; omega
      rw [e9, e10, e7, eL]
      try simp (disch := omega) only [pk_mul, nI_add, n_lt0, n_le0, n_eq0, n_ge0, n_gt0, n_lt, n_le, n_eq, n_in, n_div, n_rem, n_rem2, n_m1, nI_clamp, bz_0, bz_1, tI_0, tI_bz, n4, n16, eq_self, Nat.reduceLT, Nat.reduceLeDiff, Nat.reduceEqDiff, Nat.reduceAdd, Nat.reduceMul, Nat.reduceDiv, Nat.reduceMod, Nat.le_refl, decide_eq_false_iff_not, Classical.not_not, true_and, and_true, false_and, and_false, not_true_eq_false, not_false_eq_true, forall_const, true_implies, false_implies, implies_true, ne_eq, q1, q2, q3, hne]
      refine h1 _ ((OC.u7 (by omega)).tr (OC.u7 (by omega))) c c2 ⟨(e8.ot (by simp)).ot (by simp), ?_, ?_, ?_, ?_, (show σ.2.1 + 1 ≤ L by omega), hL, (show 0 ≤ 2 by decide)⟩
      · rw [hup_same]
      · rw [hup_idx (by decide), hup_idx (by decide), eL]
      · rw [hup_idx (by decide), hup_same]; rfl
      · rw [hup_idx (by decide), hup_idx (by decide), e10]; rfl
    · have heq : σ.2.1 = L := by omega
      rw [e9, e10, e7, eL, heq]
      try simp (disch := omega) only [pk_mul, nI_add, n_lt0, n_le0, n_eq0, n_ge0, n_gt0, n_lt, n_le, n_eq, n_in, n_div, n_rem, n_rem2, n_m1, nI_clamp, bz_0, bz_1, tI_0, tI_bz, n4, n16, eq_self, Nat.reduceLT, Nat.reduceLeDiff, Nat.reduceEqDiff, Nat.reduceAdd, Nat.reduceMul, Nat.reduceDiv, Nat.reduceMod, Nat.le_refl, decide_eq_false_iff_not, Classical.not_not, true_and, and_true, false_and, and_false, not_true_eq_false, not_false_eq_true, forall_const, true_implies, false_implies, implies_true, ne_eq, q1, q2, q3]
      refine h0 _ ((OC.u7 (by omega)).tr (OC.u7 (by omega))) ?_ (fun z => c2 z.2)
      unfold gt
      rw [if_pos c, if_pos (by omega)]
      refine ⟨(e8.ot (by simp)).ot (by simp), ?_, ?_, ?_, ?_, hle, hL, (show 1 ≤ 2 by decide)⟩
      · rw [hup_same, Nat.add_zero]
      · rw [hup_idx (by decide), hup_idx (by decide), eL]
      · rw [hup_idx (by decide), hup_same]; rfl
      · rw [hup_idx (by decide), hup_idx (by decide), e10]; rfl
  · have hp := h0 h OC.rf (by rw [gt_hz c]; exact hR) (fun z => c z.1)
    rcases (show σ.2.2 = 1 ∨ σ.2.2 = 2 by omega) with z | z
    · have e9 : h (.inr 7) 9 = nI 1 := by rw [e9, z]; rfl
      rw [e9]
      try simp (disch := omega) only [pk_mul, nI_add, n_lt0, n_le0, n_eq0, n_ge0, n_gt0, n_lt, n_le, n_eq, n_in, n_div, n_rem, n_rem2, n_m1, nI_clamp, bz_0, bz_1, tI_0, tI_bz, n4, n16, eq_self, Nat.reduceLT, Nat.reduceLeDiff, Nat.reduceEqDiff, Nat.reduceAdd, Nat.reduceMul, Nat.reduceDiv, Nat.reduceMod, Nat.le_refl, decide_eq_false_iff_not, Classical.not_not, true_and, and_true, false_and, and_false, not_true_eq_false, not_false_eq_true, forall_const, true_implies, false_implies, implies_true, ne_eq]
      exact hp
    · have e9 : h (.inr 7) 9 = nI 0 := by rw [e9, z]; rfl
      have e10 : h (.inr 7) 10 = nI 1 := by rw [e10, z]; rfl
      rw [e9, e10]
      try simp (disch := omega) only [pk_mul, nI_add, n_lt0, n_le0, n_eq0, n_ge0, n_gt0, n_lt, n_le, n_eq, n_in, n_div, n_rem, n_rem2, n_m1, nI_clamp, bz_0, bz_1, tI_0, tI_bz, n4, n16, eq_self, Nat.reduceLT, Nat.reduceLeDiff, Nat.reduceEqDiff, Nat.reduceAdd, Nat.reduceMul, Nat.reduceDiv, Nat.reduceMod, Nat.le_refl, decide_eq_false_iff_not, Classical.not_not, true_and, and_true, false_and, and_false, not_true_eq_false, not_false_eq_true, forall_const, true_implies, false_implies, implies_true, ne_eq]
      exact hp
theorem r_sets {a : Nat} {v : Int32} (hR : RR h L σ) (ha : a < 400) (hp : ∀ h', OC h h' → RR h' L (gt L (fun S => upd S a v) σ) → q h') : mU (Kd sL (d + 2)) 123 [.inr (.inr (.inr 7)), .inl (nI a), .inl v] h q := by
  refine ke_X4_sets ?_
  refine EX.go (Kd_mono _ _) [false, false, false] 40 0 ?_
  dsimp only [wpc_s, wsl_t, wsl_f, gD_0, gD_s, ↓denB_n, pI_s, pG_s, pU_n, cb_X4_sets_0, cb_X4_sets_1, cb_X4_sets_2, ↓ev_aload_n_0, ↓ev_callv_1_0_1, ↓ev_callv_1_1_1, ↓ev_callv_1_2_1, ↓ev_callv_1_3_1, ↓ev_callv_1_4_1, ↓ev_if_eq, ↓ev_getf_4_0, ↓ev_iload_n_1, ↓ev_iload_n_2, ↓ev_iast_o8, ↓ev_iast_o9, ↓ev_iast_o10, ↓ev_iast_o11, ↓ev_iast_o12, ↓ev_iast_o13, ↓ev_iast_o14, ↓ev_iast_o15, ↓ev_iast_o16, ↓ev_ret, Nat.reduceAdd]
  refine r_may hR (fun h1 o1 t1 hn => ?_) (fun h1 o1 z0 z1 t1 => ?_)
  · rw [gt_no hn] at hp
    exact ⟨fun _ => hp h1 o1 t1, fun c2 => absurd rfl c2⟩
  · rw [gt_yes z0 z1] at hp
    refine ⟨fun c2 => absurd c2 (by decide), fun _ => ?_⟩
    try simp (disch := omega) only [pk_mul, nI_add, n_lt0, n_le0, n_eq0, n_ge0, n_gt0, n_lt, n_le, n_eq, n_in, n_div, n_rem, n_rem2, n_m1, nI_clamp, bz_0, bz_1, tI_0, tI_bz, n4, n16, eq_self, Nat.reduceLT, Nat.reduceLeDiff, Nat.reduceEqDiff, Nat.reduceAdd, Nat.reduceMul, Nat.reduceDiv, Nat.reduceMod, Nat.le_refl, decide_eq_false_iff_not, Classical.not_not, true_and, and_true, false_and, and_false, not_true_eq_false, not_false_eq_true, forall_const, true_implies, false_implies, implies_true, ne_eq]
    exact ⟨ha, hp _ (o1.tr OC.u8) t1.up⟩
theorem r_counts {c : Nat} {v : Int32} (hR : RR h L σ) (hc : c < 64) (hp : ∀ h', OC h h' → RR h' L (gt L (fun S => upd S c (S c + v)) σ) → q h') : mU (Kd sL (d + 3)) 124 [.inr (.inr (.inr 7)), .inl (nI c), .inl v] h q := by
  refine ke_X4_counts ?_
  refine EX.go (Kd_mono _ _) [false] 40 0 ?_
  dsimp only [wpc_s, wsl_t, wsl_f, gD_0, gD_s, ↓denB_n, pI_s, pG_s, pU_n, cb_X4_counts_0, ↓ev_aload_n_0, ↓ev_iconst_0, ↓ev_iload_n_1, ↓ev_iadd, ↓ev_getf_4_0, ↓ev_iald_o8, ↓ev_iald_o9, ↓ev_iald_o10, ↓ev_iald_o11, ↓ev_iald_o12, ↓ev_iald_o13, ↓ev_iald_o14, ↓ev_iald_o15, ↓ev_iald_o16, ↓ev_iload_n_2, ↓ev_callv_3_0_0, ↓ev_callv_3_1_0, ↓ev_callv_3_2_0, ↓ev_callv_3_3_0, ↓ev_callv_3_4_0, ↓ev_ret, Nat.reduceAdd]
  have e : h (.inr 8) c = σ.1 c := hR.1 c (by omega)
  try simp (disch := omega) only [pk_mul, nI_add, n_lt0, n_le0, n_eq0, n_ge0, n_gt0, n_lt, n_le, n_eq, n_in, n_div, n_rem, n_rem2, n_m1, nI_clamp, bz_0, bz_1, tI_0, tI_bz, n4, n16, eq_self, Nat.reduceLT, Nat.reduceLeDiff, Nat.reduceEqDiff, Nat.reduceAdd, Nat.reduceMul, Nat.reduceDiv, Nat.reduceMod, Nat.le_refl, decide_eq_false_iff_not, Classical.not_not, true_and, and_true, false_and, and_false, not_true_eq_false, not_false_eq_true, forall_const, true_implies, false_implies, implies_true, ne_eq, Nat.zero_add, e]
  refine ⟨by omega, r_sets hR (by omega) (fun h1 o1 t1 => hp h1 o1 ?_)⟩
  rw [gt_cg (f' := fun S => upd S c (σ.1 c + v)) (fun _ => rfl)]
  exact t1
theorem r_addc {c : Nat} {v : Int32} (hR : RR h L σ) (h1 : ¬ c = 0) (hc : c < 64) (hp : ∀ h', OC h h' → RR h' L (addc L c v σ) → q h') : mU (Kd sL (d + 3)) 124 [.inr (.inr (.inr 7)), .inl (nI c), .inl v] h q := by
  unfold addc at hp
  rw [if_neg h1] at hp
  exact r_counts hR hc hp
theorem r_setsFour {c : Nat} {a b x y : Int32} (hR : RR h L σ) (hc : c < 64) (hp : ∀ h', OC h h' → RR h' L (gt L (fun S => four S c a b x y) σ) → q h') : mU (Kd sL (d + 2)) 125 [.inr (.inr (.inr 7)), .inl (nI c), .inl a, .inl b, .inl x, .inl y] h q := by
  refine ke_X4_setsFour ?_
  refine EX.go (Kd_mono _ _) [false, false, false] 40 0 ?_
  dsimp only [wpc_s, wsl_t, wsl_f, gD_0, gD_s, ↓denB_n, pI_s, pG_s, pU_n, cb_X4_setsFour_0, cb_X4_setsFour_1, cb_X4_setsFour_2, ↓ev_aload_n_0, ↓ev_callv_1_0_1, ↓ev_callv_1_1_1, ↓ev_callv_1_2_1, ↓ev_callv_1_3_1, ↓ev_callv_1_4_1, ↓ev_if_ne, ↓ev_ret, ↓ev_getf_4_0, ↓ev_bipush_64, ↓ev_iconst_4, ↓ev_iload_n_1, ↓ev_imul, ↓ev_iadd, ↓ev_iload_n_2, ↓ev_iast_o8, ↓ev_iast_o9, ↓ev_iast_o10, ↓ev_iast_o11, ↓ev_iast_o12, ↓ev_iast_o13, ↓ev_iast_o14, ↓ev_iast_o15, ↓ev_iast_o16, ↓ev_iconst_1, ↓ev_iload_n_3, ↓ev_iconst_2, ↓ev_iload_4, ↓ev_iconst_3, ↓ev_iload_5, Nat.reduceAdd]
  refine r_may hR (fun h1 o1 t1 hn => ?_) (fun h1 o1 z0 z1 t1 => ?_)
  · rw [gt_no hn] at hp
    exact ⟨fun c2 => absurd rfl c2, fun _ => hp h1 o1 t1⟩
  · rw [gt_yes z0 z1] at hp
    refine ⟨fun _ => ?_, fun c2 => absurd c2 (by decide)⟩
    try simp (disch := omega) only [pk_mul, nI_add, n_lt0, n_le0, n_eq0, n_ge0, n_gt0, n_lt, n_le, n_eq, n_in, n_div, n_rem, n_rem2, n_m1, nI_clamp, bz_0, bz_1, tI_0, tI_bz, n4, n16, eq_self, Nat.reduceLT, Nat.reduceLeDiff, Nat.reduceEqDiff, Nat.reduceAdd, Nat.reduceMul, Nat.reduceDiv, Nat.reduceMod, Nat.le_refl, decide_eq_false_iff_not, Classical.not_not, true_and, and_true, false_and, and_false, not_true_eq_false, not_false_eq_true, forall_const, true_implies, false_implies, implies_true, ne_eq]
    exact ⟨by omega, by omega, by omega, by omega, hp _ (o1.tr (OC.u8.tr (OC.u8.tr (OC.u8.tr OC.u8)))) t1.up.up.up.up⟩
theorem r_copiesCells {a b : Nat} (hR : RR h L σ) (ha : a < 64) (hb : b < 64) (hp : ∀ h', OC h h' → RR h' L (gt L (fun S => cp4 S a b) σ) → q h') : mU (Kd sL (d + 3)) 126 [.inr (.inr (.inr 7)), .inl (nI a), .inl (nI b)] h q := by
  refine ke_X4_copiesCells ?_
  refine EX.go (Kd_mono _ _) [false] 40 0 ?_
  dsimp only [wpc_s, wsl_t, wsl_f, gD_0, gD_s, ↓denB_n, pI_s, pG_s, pU_n, cb_X4_copiesCells_0, ↓ev_aload_n_0, ↓ev_iload_n_2, ↓ev_getf_4_0, ↓ev_bipush_64, ↓ev_iconst_4, ↓ev_iload_n_1, ↓ev_imul, ↓ev_iadd, ↓ev_iald_o8, ↓ev_iald_o9, ↓ev_iald_o10, ↓ev_iald_o11, ↓ev_iald_o12, ↓ev_iald_o13, ↓ev_iald_o14, ↓ev_iald_o15, ↓ev_iald_o16, ↓ev_iconst_1, ↓ev_iconst_2, ↓ev_iconst_3, ↓ev_callv_6_0_0, ↓ev_callv_6_1_0, ↓ev_callv_6_2_0, ↓ev_callv_6_3_0, ↓ev_callv_6_4_0, ↓ev_ret, Nat.reduceAdd]
  have e0 : h (.inr 8) (64 + 4 * a) = σ.1 (64 + 4 * a) := hR.1 _ (by omega)
  have e1 : h (.inr 8) (64 + 4 * a + 1) = σ.1 (64 + 4 * a + 1) := hR.1 _ (by omega)
  have e2 : h (.inr 8) (64 + 4 * a + 2) = σ.1 (64 + 4 * a + 2) := hR.1 _ (by omega)
  have e3 : h (.inr 8) (64 + 4 * a + 3) = σ.1 (64 + 4 * a + 3) := hR.1 _ (by omega)
  try simp (disch := omega) only [pk_mul, nI_add, n_lt0, n_le0, n_eq0, n_ge0, n_gt0, n_lt, n_le, n_eq, n_in, n_div, n_rem, n_rem2, n_m1, nI_clamp, bz_0, bz_1, tI_0, tI_bz, n4, n16, eq_self, Nat.reduceLT, Nat.reduceLeDiff, Nat.reduceEqDiff, Nat.reduceAdd, Nat.reduceMul, Nat.reduceDiv, Nat.reduceMod, Nat.le_refl, decide_eq_false_iff_not, Classical.not_not, true_and, and_true, false_and, and_false, not_true_eq_false, not_false_eq_true, forall_const, true_implies, false_implies, implies_true, ne_eq, e0, e1, e2, e3]
  refine ⟨by omega, by omega, by omega, by omega, r_setsFour hR hb (fun h1 o1 t1 => hp h1 o1 ?_)⟩
  rw [gt_cg (f' := fun S => four S b (σ.1 (64 + 4 * a)) (σ.1 (64 + 4 * a + 1)) (σ.1 (64 + 4 * a + 2)) (σ.1 (64 + 4 * a + 3))) (fun _ => (four_eq (fun j hj => cp4_out hj) (cp4_in (k := 0) (by decide)) (cp4_in (by decide)) (cp4_in (by decide)) (cp4_in (by decide))).symm)]
  exact t1
theorem r_anew (hR : RR h L σ) (hp : ∀ r h', r < 64 → (σ.2.2 = 0 → r = (ncl σ).1) → OC h h' → RR h' L (gt L (fun S => upd S (ncl σ).1 (nI 1)) (ncl σ).2) → p (nI r) h') : mI (Kd sL (d + 3)) 127 [.inr (.inr (.inr 7))] h p := by
  refine ke_X4_anew ?_
  refine EX.go (Kd_mono _ _) [false, true, false, false, true, false, false, false, false, false, false] 40 0 ?_
  dsimp only [wpc_s, wsl_t, wsl_f, gD_0, gD_s, ↓denB_n, pI_s, pG_s, pU_n, cb_X4_anew_0, cb_X4_anew_1, cb_X4_anew_2, cb_X4_anew_3, cb_X4_anew_4, cb_X4_anew_5, cb_X4_anew_6, cb_X4_anew_7, cb_X4_anew_8, cb_X4_anew_9, cb_X4_anew_10, ↓ev_iconst_1, ↓ev_istore_n_1, ↓ev_iload_n_1, ↓ev_bipush_64, ↓ev_icmp_ge, ↓ev_aload_n_0, ↓ev_getf_4_0, ↓ev_iconst_0, ↓ev_iadd, ↓ev_iald_o8, ↓ev_iald_o9, ↓ev_iald_o10, ↓ev_iald_o11, ↓ev_iald_o12, ↓ev_iald_o13, ↓ev_iald_o14, ↓ev_iald_o15, ↓ev_iald_o16, ↓ev_if_eq, ↓ev_iinc_1_1, ↓ev_goto, ↓ev_icmp_ne, ↓ev_getf_4_10, ↓ev_if_ne, ↓ev_getf_4_9, ↓ev_putf_4_10, ↓ev_iret, ↓ev_callv_3_0_0, ↓ev_callv_3_1_0, ↓ev_callv_3_2_0, ↓ev_callv_3_3_0, ↓ev_callv_3_4_0, Nat.reduceAdd]
  suffices H : ∀ (f k : Nat), k + f = 64 → 1 ≤ k → nw σ.1 = nwf σ.1 f k → EX (Kd sL (d + 2)) sL md_X4_anew (pI p) 1 [some (.inr (.inr (.inr 7))), some (.inl (nI k))] [] h from H 63 1 rfl (Nat.le_refl 1) rfl
  have J4 : ∀ k, 1 ≤ k → k ≤ 64 → nw σ.1 = k → EX (Kd sL (d + 2)) sL md_X4_anew (pI p) 4 [some (.inr (.inr (.inr 7))), some (.inl (nI k))] [] h := by
    intro k h1 h2 hw
    obtain ⟨e8, e7, eL, e9, e10, hle, hL, hk⟩ := id hR
    refine EX.go (Kd_mono _ _) [false, true, false, false, true, false, false, false, false, false, false] 40 4 ?_
    dsimp only [wpc_s, wsl_t, wsl_f, gD_0, gD_s, ↓denB_n, pI_s, pG_s, pU_n, cb_X4_anew_0, cb_X4_anew_1, cb_X4_anew_2, cb_X4_anew_3, cb_X4_anew_4, cb_X4_anew_5, cb_X4_anew_6, cb_X4_anew_7, cb_X4_anew_8, cb_X4_anew_9, cb_X4_anew_10, ↓ev_iconst_1, ↓ev_istore_n_1, ↓ev_iload_n_1, ↓ev_bipush_64, ↓ev_icmp_ge, ↓ev_aload_n_0, ↓ev_getf_4_0, ↓ev_iconst_0, ↓ev_iadd, ↓ev_iald_o8, ↓ev_iald_o9, ↓ev_iald_o10, ↓ev_iald_o11, ↓ev_iald_o12, ↓ev_iald_o13, ↓ev_iald_o14, ↓ev_iald_o15, ↓ev_iald_o16, ↓ev_if_eq, ↓ev_iinc_1_1, ↓ev_goto, ↓ev_icmp_ne, ↓ev_getf_4_10, ↓ev_if_ne, ↓ev_getf_4_9, ↓ev_putf_4_10, ↓ev_iret, ↓ev_callv_3_0_0, ↓ev_callv_3_1_0, ↓ev_callv_3_2_0, ↓ev_callv_3_3_0, ↓ev_callv_3_4_0, Nat.reduceAdd]
    try simp (disch := omega) only [pk_mul, nI_add, n_lt0, n_le0, n_eq0, n_ge0, n_gt0, n_lt, n_le, n_eq, n_in, n_div, n_rem, n_rem2, n_m1, nI_clamp, bz_0, bz_1, tI_0, tI_bz, n4, n16, eq_self, Nat.reduceLT, Nat.reduceLeDiff, Nat.reduceEqDiff, Nat.reduceAdd, Nat.reduceMul, Nat.reduceDiv, Nat.reduceMod, Nat.le_refl, decide_eq_false_iff_not, Classical.not_not, true_and, and_true, false_and, and_false, not_true_eq_false, not_false_eq_true, forall_const, true_implies, false_implies, implies_true, ne_eq, Nat.zero_add]
    refine ⟨fun c => ?_, fun c => ?_⟩
    · refine r_sets hR (by omega) (fun h1 o1 t1 => hp k h1 (by omega) (fun z => ?_) o1 ?_)
      · unfold ncl
        rw [if_pos z, if_neg (by omega), hw]
      · by_cases z : σ.2.2 = 0
        · have : ncl σ = (k, σ) := by
            unfold ncl
            rw [if_pos z, if_neg (by omega), hw]
          rw [this]
          exact t1
        · rw [ncl_hz z]
          dsimp only
          rw [gt_hz z] at t1 ⊢
          exact t1
    · by_cases z : σ.2.2 = 0
      · have e9 : h (.inr 7) 9 = nI 0 := by rw [e9, z]; rfl
        have e10 : h (.inr 7) 10 = nI 0 := by rw [e10, z]; rfl
        have hn : ncl σ = (0, (σ.1, σ.2.1, 2)) := by
          unfold ncl
          rw [if_pos z, if_pos (by omega)]
        rw [e9, e10]
        try simp (disch := omega) only [pk_mul, nI_add, n_lt0, n_le0, n_eq0, n_ge0, n_gt0, n_lt, n_le, n_eq, n_in, n_div, n_rem, n_rem2, n_m1, nI_clamp, bz_0, bz_1, tI_0, tI_bz, n4, n16, eq_self, Nat.reduceLT, Nat.reduceLeDiff, Nat.reduceEqDiff, Nat.reduceAdd, Nat.reduceMul, Nat.reduceDiv, Nat.reduceMod, Nat.le_refl, decide_eq_false_iff_not, Classical.not_not, true_and, and_true, false_and, and_false, not_true_eq_false, not_false_eq_true, forall_const, true_implies, false_implies, implies_true, ne_eq]
        refine hp 0 _ (by decide) (fun _ => by rw [hn]) (OC.u7 (by omega)) ?_
        rw [hn]
        dsimp only
        rw [gt_hz (show ¬ (2 : Nat) = 0 by decide)]
        refine ⟨e8.ot (by simp), ?_, ?_, ?_, ?_, hle, hL, (show 2 ≤ 2 by decide)⟩
        · rw [hup_idx (by decide), e7]
        · rw [hup_idx (by decide), eL]
        · rw [hup_idx (by decide), e9]; rfl
        · rw [hup_same]; rfl
      · have hp := fun h' => hp 0 h' (by decide) (fun y => absurd y z)
        rw [ncl_hz z] at hp
        dsimp only at hp
        rw [gt_hz z] at hp
        rcases (show σ.2.2 = 1 ∨ σ.2.2 = 2 by omega) with y | y
        · have e9' : h (.inr 7) 9 = nI 1 := by rw [e9, y]; rfl
          have e10' : h (.inr 7) 10 = nI 0 := by rw [e10, y]; rfl
          rw [e9', e10']
          try simp (disch := omega) only [pk_mul, nI_add, n_lt0, n_le0, n_eq0, n_ge0, n_gt0, n_lt, n_le, n_eq, n_in, n_div, n_rem, n_rem2, n_m1, nI_clamp, bz_0, bz_1, tI_0, tI_bz, n4, n16, eq_self, Nat.reduceLT, Nat.reduceLeDiff, Nat.reduceEqDiff, Nat.reduceAdd, Nat.reduceMul, Nat.reduceDiv, Nat.reduceMod, Nat.le_refl, decide_eq_false_iff_not, Classical.not_not, true_and, and_true, false_and, and_false, not_true_eq_false, not_false_eq_true, forall_const, true_implies, false_implies, implies_true, ne_eq]
          refine hp _ (OC.u7 (by omega)) ⟨e8.ot (by simp), ?_, ?_, ?_, ?_, hle, hL, hk⟩
          · rw [hup_idx (by decide), e7]
          · rw [hup_idx (by decide), eL]
          · rw [hup_idx (by decide), e9]
          · rw [hup_same, y]; rfl
        · have e10' : h (.inr 7) 10 = nI 1 := by rw [e10, y]; rfl
          rw [e10']
          try simp (disch := omega) only [pk_mul, nI_add, n_lt0, n_le0, n_eq0, n_ge0, n_gt0, n_lt, n_le, n_eq, n_in, n_div, n_rem, n_rem2, n_m1, nI_clamp, bz_0, bz_1, tI_0, tI_bz, n4, n16, eq_self, Nat.reduceLT, Nat.reduceLeDiff, Nat.reduceEqDiff, Nat.reduceAdd, Nat.reduceMul, Nat.reduceDiv, Nat.reduceMod, Nat.le_refl, decide_eq_false_iff_not, Classical.not_not, true_and, and_true, false_and, and_false, not_true_eq_false, not_false_eq_true, forall_const, true_implies, false_implies, implies_true, ne_eq]
          refine hp _ (OC.u7 (by omega)) ⟨e8.ot (by simp), ?_, ?_, ?_, ?_, hle, hL, hk⟩
          · rw [hup_idx (by decide), e7]
          · rw [hup_idx (by decide), eL]
          · rw [hup_idx (by decide), e9]
          · rw [hup_same, y]; rfl
  intro f
  induction f with
  | zero =>
    intro k hk h1 hw
    refine EX.go (Kd_mono _ _) [false, true, false, false, true, false, false, false, false, false, false] 40 1 ?_
    dsimp only [wpc_s, wsl_t, wsl_f, gD_0, gD_s, ↓denB_n, pI_s, pG_s, pU_n, cb_X4_anew_0, cb_X4_anew_1, cb_X4_anew_2, cb_X4_anew_3, cb_X4_anew_4, cb_X4_anew_5, cb_X4_anew_6, cb_X4_anew_7, cb_X4_anew_8, cb_X4_anew_9, cb_X4_anew_10, ↓ev_iconst_1, ↓ev_istore_n_1, ↓ev_iload_n_1, ↓ev_bipush_64, ↓ev_icmp_ge, ↓ev_aload_n_0, ↓ev_getf_4_0, ↓ev_iconst_0, ↓ev_iadd, ↓ev_iald_o8, ↓ev_iald_o9, ↓ev_iald_o10, ↓ev_iald_o11, ↓ev_iald_o12, ↓ev_iald_o13, ↓ev_iald_o14, ↓ev_iald_o15, ↓ev_iald_o16, ↓ev_if_eq, ↓ev_iinc_1_1, ↓ev_goto, ↓ev_icmp_ne, ↓ev_getf_4_10, ↓ev_if_ne, ↓ev_getf_4_9, ↓ev_putf_4_10, ↓ev_iret, ↓ev_callv_3_0_0, ↓ev_callv_3_1_0, ↓ev_callv_3_2_0, ↓ev_callv_3_3_0, ↓ev_callv_3_4_0, Nat.reduceAdd]
    try simp (disch := omega) only [pk_mul, nI_add, n_lt0, n_le0, n_eq0, n_ge0, n_gt0, n_lt, n_le, n_eq, n_in, n_div, n_rem, n_rem2, n_m1, nI_clamp, bz_0, bz_1, tI_0, tI_bz, n4, n16, eq_self, Nat.reduceLT, Nat.reduceLeDiff, Nat.reduceEqDiff, Nat.reduceAdd, Nat.reduceMul, Nat.reduceDiv, Nat.reduceMod, Nat.le_refl, decide_eq_false_iff_not, Classical.not_not, true_and, and_true, false_and, and_false, not_true_eq_false, not_false_eq_true, forall_const, true_implies, false_implies, implies_true, ne_eq]
    exact ⟨fun _ => J4 k h1 (by omega) hw, fun c2 => absurd (show 64 ≤ k by omega) c2⟩
  | succ f ih =>
    intro k hk h1 hw
    refine EX.go (Kd_mono _ _) [false, true, false, false, true, false, false, false, false, false, false] 40 1 ?_
    dsimp only [wpc_s, wsl_t, wsl_f, gD_0, gD_s, ↓denB_n, pI_s, pG_s, pU_n, cb_X4_anew_0, cb_X4_anew_1, cb_X4_anew_2, cb_X4_anew_3, cb_X4_anew_4, cb_X4_anew_5, cb_X4_anew_6, cb_X4_anew_7, cb_X4_anew_8, cb_X4_anew_9, cb_X4_anew_10, ↓ev_iconst_1, ↓ev_istore_n_1, ↓ev_iload_n_1, ↓ev_bipush_64, ↓ev_icmp_ge, ↓ev_aload_n_0, ↓ev_getf_4_0, ↓ev_iconst_0, ↓ev_iadd, ↓ev_iald_o8, ↓ev_iald_o9, ↓ev_iald_o10, ↓ev_iald_o11, ↓ev_iald_o12, ↓ev_iald_o13, ↓ev_iald_o14, ↓ev_iald_o15, ↓ev_iald_o16, ↓ev_if_eq, ↓ev_iinc_1_1, ↓ev_goto, ↓ev_icmp_ne, ↓ev_getf_4_10, ↓ev_if_ne, ↓ev_getf_4_9, ↓ev_putf_4_10, ↓ev_iret, ↓ev_callv_3_0_0, ↓ev_callv_3_1_0, ↓ev_callv_3_2_0, ↓ev_callv_3_3_0, ↓ev_callv_3_4_0, Nat.reduceAdd]
    have e : h (.inr 8) k = σ.1 k := hR.1 k (by omega)
    try simp (disch := omega) only [pk_mul, nI_add, n_lt0, n_le0, n_eq0, n_ge0, n_gt0, n_lt, n_le, n_eq, n_in, n_div, n_rem, n_rem2, n_m1, nI_clamp, bz_0, bz_1, tI_0, tI_bz, n4, n16, eq_self, Nat.reduceLT, Nat.reduceLeDiff, Nat.reduceEqDiff, Nat.reduceAdd, Nat.reduceMul, Nat.reduceDiv, Nat.reduceMod, Nat.le_refl, decide_eq_false_iff_not, Classical.not_not, true_and, and_true, false_and, and_false, not_true_eq_false, not_false_eq_true, forall_const, true_implies, false_implies, implies_true, ne_eq, Nat.zero_add, e]
    unfold nwf at hw
    refine ⟨fun c2 => absurd c2 (by omega), fun _ => ⟨by omega, fun c2 => ?_, fun c2 => ?_⟩⟩
    · rw [if_pos c2] at hw
      exact J4 k h1 (by omega) hw
    · rw [if_neg c2] at hw
      exact ih (k + 1) (by omega) (by omega) hw
end RW
