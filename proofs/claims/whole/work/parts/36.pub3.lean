/-! ===== class TornLayers: counts, who holds what, in thought ===== -/
/-- the class's number of a holder -/
def hdr (w : Int32) : Option Nat := if 0 ≤ w ∧ w < nI 6 then some w.toNatClampNeg else if nI 10 ≤ w ∧ w < nI 18 then some (w.toNatClampNeg - 4) else none
noncomputable def aHolds (S : St) (w : Int32) : Int64 := match hdr w with
  | some x => lOr (fun c => dec (hld S x c)) 64
  | none => lN 0
noncomputable def aAlone (S : St) (w : Int32) : Int64 := match hdr w with
  | some x => lOr (fun c => dec (hld S x c ∧ ∀ y, y < 14 → y ≠ x → ¬ hld S y c)) 64
  | none => lN 0
/-- 0 to 5, 10 to 17 -/
def hbit (x : Nat) : Nat := if x < 6 then x else x + 4
noncomputable def hoF (S : St) (c : Nat) : Nat → Int32
  | 0 => nI 0
  | x + 1 => if dec (hld S x c) then hoF S c x ||| (nI 1 <<< (nI (hbit x) &&& 31)) else hoF S c x
noncomputable def aHolders (g : Gs) (c : Int32) : Int32 × Gs := if dec (0 < c ∧ c < nI 64) then (hoF g.1 c.toNatClampNeg 14, g) else rfA g 0
noncomputable def dseD (S : St) (c : Nat) : Bool := dec (isD S (fun t => dec (isT S 0 14 t)) c)
noncomputable def twK (S : St) (c : Nat) : Nat → Nat
  | 0 => 0
  | k + 1 => twK S c k + (if dec (c + 1 ≤ k ∧ dseD S c = true ∧ dseD S k = true ∧ alk S c k) then 1 else 0)
noncomputable def twF (S : St) : Nat → Nat
  | 0 => 0
  | c + 1 => twF S c + (if 1 ≤ c then twK S c 64 else 0)
noncomputable def aTwins (S : St) : Int32 := nI (twF S 64)
section PB3
variable {sL d : Nat} {h : mH} {g : Gs} {p : Int32 → mH → Prop}
theorem pc_x {x : Int32} (hx : 0 < x ∧ x < nI 64) : ∃ k, 1 ≤ k ∧ k < 64 ∧ x = nI k := by
  obtain ⟨k, hk, rfl⟩ := (i_cases x).resolve_left (fun z => Int32.not_lt.mpr (Int32.le_of_lt hx.1) z)
  have h1 := hx.1
  have h2 := hx.2
  rw [n_gt0 hk] at h1
  rw [n_lt hk (by decide)] at h2
  exact ⟨k, h1, h2, rfl⟩
theorem k_isClusterD {x : Int32} (hp : p (tI (dec (0 < x ∧ x < nI 64))) h) : mI (Kd sL (d + 1)) 97 [.inl x] h p := k_isCluster (by rw [dec_dec]; exact hp)
theorem c_cluster {c w : Int32} (hG : CG h g) (hp : ∀ h', FX h h' → CG h' (aCluster g c w).2 → p (aCluster g c w).1 h') : mI (Kd sL (d + 9)) 67 [.inr (.inr (.inr 0)), .inl c, .inl w] h p := by
  refine ke_X3_cluster ?_
  refine EX.go (Kd_mono _ _) [false, false, false, false, false, false, false] 40 0 ?_
  dsimp only [wpc_s, wsl_t, wsl_f, gD_0, gD_s, ↓denB_n, pI_s, pG_s, pU_n, cb_X3_cluster_0, cb_X3_cluster_1, cb_X3_cluster_2, cb_X3_cluster_3, cb_X3_cluster_4, cb_X3_cluster_5, cb_X3_cluster_6, ↓ev_iload_n_1, ↓ev_calls_1_0_1, ↓ev_calls_1_1_1, ↓ev_calls_1_2_1, ↓ev_calls_1_3_1, ↓ev_calls_1_4_1, ↓ev_if_ne, ↓ev_aload_n_0, ↓ev_sipush_m1001, ↓ev_callv_2_0_1, ↓ev_callv_2_1_1, ↓ev_callv_2_2_1, ↓ev_callv_2_3_1, ↓ev_callv_2_4_1, ↓ev_iret, ↓ev_iload_n_2, ↓ev_tsw_0_6, ↓ev_getf_3_0, ↓ev_getf_0_1, ↓ev_iald_m1, ↓ev_iald_m2, ↓ev_iald_m3, ↓ev_iald_m4, ↓ev_iald_m5, ↓ev_iald_m6, ↓ev_iald_o1, ↓ev_iald_o6, ↓ev_callv_1_0_0, ↓ev_callv_1_1_0, ↓ev_callv_1_2_0, ↓ev_callv_1_3_0, ↓ev_callv_1_4_0, ↓ev_getf_0_7, ↓ev_getf_0_0, ↓ev_iconst_4, ↓ev_imul, ↓ev_iadd, ↓ev_iconst_2, ↓ev_isub, Nat.reduceAdd]
  unfold aCluster at hp
  refine k_isClusterD ?_
  try simp (disch := omega) only [pk_mul, nI_add, n_lt0, n_le0, n_eq0, n_ge0, n_gt0, n_lt, n_le, n_eq, n_in, n_div, n_rem, n_rem2, n_m1, nI_clamp, bz_0, bz_1, tI_0, tI_bz, n4, n16, eq_self, Nat.reduceLT, Nat.reduceLeDiff, Nat.reduceEqDiff, Nat.reduceAdd, Nat.reduceMul, Nat.reduceDiv, Nat.reduceMod, Nat.le_refl, decide_eq_false_iff_not, Classical.not_not, true_and, and_true, false_and, and_false, not_true_eq_false, not_false_eq_true, forall_const, true_implies, false_implies, implies_true, ne_eq, dec_f]
  refine ⟨fun c1 => ?_, fun c1 => ?_⟩
  · obtain ⟨k, hk1, hk, rfl⟩ := pc_x c1
    rw [if_pos (by rw [dec_t]; exact c1), nI_clamp (by omega)] at hp
    have e2 := hG.1.2.1 k hk
    have q0 : h (.inl (0, 1)) (k * 4 + 2 - 2) = g.1 (64 + 4 * k) := by rw [hG.1.1 _ (by omega), show 64 + (k * 4 + 2 - 2) = 64 + 4 * k by omega]
    have q1 : h (.inl (0, 1)) (k * 4 + 3 - 2) = g.1 (64 + 4 * k + 1) := by rw [hG.1.1 _ (by omega), show 64 + (k * 4 + 3 - 2) = 64 + 4 * k + 1 by omega]
    have q2 : h (.inl (0, 1)) (k * 4 + 4 - 2) = g.1 (64 + 4 * k + 2) := by rw [hG.1.1 _ (by omega), show 64 + (k * 4 + 4 - 2) = 64 + 4 * k + 2 by omega]
    have q3 : h (.inl (0, 1)) (k * 4 + 5 - 2) = g.1 (64 + 4 * k + 3) := by rw [hG.1.1 _ (by omega), show 64 + (k * 4 + 5 - 2) = 64 + 4 * k + 3 by omega]
    refine ⟨fun c2 => ?_, fun c2 => ⟨fun c3 => ?_, fun c3 => ⟨fun c4 => ?_, fun c4 => ⟨fun c5 => ?_, fun c5 => ⟨fun c6 => ?_, fun c6 => ⟨fun c7 => ?_, fun c7 => ?_⟩⟩⟩⟩⟩⟩
    · rw [if_pos c2] at hp
      try simp (disch := omega) only [pk_mul, nI_add, n_lt0, n_le0, n_eq0, n_ge0, n_gt0, n_lt, n_le, n_eq, n_in, n_div, n_rem, n_rem2, n_m1, nI_clamp, bz_0, bz_1, tI_0, tI_bz, n4, n16, eq_self, Nat.reduceLT, Nat.reduceLeDiff, Nat.reduceEqDiff, Nat.reduceAdd, Nat.reduceMul, Nat.reduceDiv, Nat.reduceMod, Nat.le_refl, decide_eq_false_iff_not, Classical.not_not, true_and, and_true, false_and, and_false, not_true_eq_false, not_false_eq_true, forall_const, true_implies, false_implies, implies_true, ne_eq, e2]
      exact ⟨hk, hp h FX.rf hG⟩
    · rw [if_neg c2, if_pos c3] at hp
      refine k_countTrue hG.1 (fun h1 o1 c1' hf => ?_)
      have e3 := hf k hk1 hk
      try simp (disch := omega) only [pk_mul, nI_add, n_lt0, n_le0, n_eq0, n_ge0, n_gt0, n_lt, n_le, n_eq, n_in, n_div, n_rem, n_rem2, n_m1, nI_clamp, bz_0, bz_1, tI_0, tI_bz, n4, n16, eq_self, Nat.reduceLT, Nat.reduceLeDiff, Nat.reduceEqDiff, Nat.reduceAdd, Nat.reduceMul, Nat.reduceDiv, Nat.reduceMod, Nat.le_refl, decide_eq_false_iff_not, Classical.not_not, true_and, and_true, false_and, and_false, not_true_eq_false, not_false_eq_true, forall_const, true_implies, false_implies, implies_true, ne_eq, e3]
      exact ⟨hk, hp h1 o1.fx (hG.oi o1 c1')⟩
    · rw [if_neg c2, if_neg c3, if_pos c4] at hp
      subst c4
      try simp (disch := omega) only [pk_mul, nI_add, n_lt0, n_le0, n_eq0, n_ge0, n_gt0, n_lt, n_le, n_eq, n_in, n_div, n_rem, n_rem2, n_m1, nI_clamp, bz_0, bz_1, tI_0, tI_bz, n4, n16, eq_self, Nat.reduceLT, Nat.reduceLeDiff, Nat.reduceEqDiff, Nat.reduceAdd, Nat.reduceMul, Nat.reduceDiv, Nat.reduceMod, Nat.le_refl, decide_eq_false_iff_not, Classical.not_not, true_and, and_true, false_and, and_false, not_true_eq_false, not_false_eq_true, forall_const, true_implies, false_implies, implies_true, ne_eq, n_sub, q0]
      exact ⟨by omega, hp h FX.rf hG⟩
    · rw [if_neg c2, if_neg c3, if_neg c4, if_pos c5] at hp
      subst c5
      try simp (disch := omega) only [pk_mul, nI_add, n_lt0, n_le0, n_eq0, n_ge0, n_gt0, n_lt, n_le, n_eq, n_in, n_div, n_rem, n_rem2, n_m1, nI_clamp, bz_0, bz_1, tI_0, tI_bz, n4, n16, eq_self, Nat.reduceLT, Nat.reduceLeDiff, Nat.reduceEqDiff, Nat.reduceAdd, Nat.reduceMul, Nat.reduceDiv, Nat.reduceMod, Nat.le_refl, decide_eq_false_iff_not, Classical.not_not, true_and, and_true, false_and, and_false, not_true_eq_false, not_false_eq_true, forall_const, true_implies, false_implies, implies_true, ne_eq, n_sub, q1]
      exact ⟨by omega, hp h FX.rf hG⟩
    · rw [if_neg c2, if_neg c3, if_neg c4, if_neg c5, if_pos c6] at hp
      subst c6
      try simp (disch := omega) only [pk_mul, nI_add, n_lt0, n_le0, n_eq0, n_ge0, n_gt0, n_lt, n_le, n_eq, n_in, n_div, n_rem, n_rem2, n_m1, nI_clamp, bz_0, bz_1, tI_0, tI_bz, n4, n16, eq_self, Nat.reduceLT, Nat.reduceLeDiff, Nat.reduceEqDiff, Nat.reduceAdd, Nat.reduceMul, Nat.reduceDiv, Nat.reduceMod, Nat.le_refl, decide_eq_false_iff_not, Classical.not_not, true_and, and_true, false_and, and_false, not_true_eq_false, not_false_eq_true, forall_const, true_implies, false_implies, implies_true, ne_eq, n_sub, q2]
      exact ⟨by omega, hp h FX.rf hG⟩
    · rw [if_neg c2, if_neg c3, if_neg c4, if_neg c5, if_neg c6, if_pos c7] at hp
      subst c7
      try simp (disch := omega) only [pk_mul, nI_add, n_lt0, n_le0, n_eq0, n_ge0, n_gt0, n_lt, n_le, n_eq, n_in, n_div, n_rem, n_rem2, n_m1, nI_clamp, bz_0, bz_1, tI_0, tI_bz, n4, n16, eq_self, Nat.reduceLT, Nat.reduceLeDiff, Nat.reduceEqDiff, Nat.reduceAdd, Nat.reduceMul, Nat.reduceDiv, Nat.reduceMod, Nat.le_refl, decide_eq_false_iff_not, Classical.not_not, true_and, and_true, false_and, and_false, not_true_eq_false, not_false_eq_true, forall_const, true_implies, false_implies, implies_true, ne_eq, n_sub, q3]
      exact ⟨by omega, hp h FX.rf hG⟩
    · rw [if_neg c2, if_neg c3, if_neg c4, if_neg c5, if_neg c6, if_neg c7] at hp
      exact k_rfA (j := 0) hG (by decide) hp
  · rw [if_neg (by rw [dec_t]; exact c1)] at hp
    exact k_rfA (j := 0) hG (by decide) hp
theorem c_spoil {c n : Int32} (hG : CG h g) (hp : ∀ h', FX h h' → CG h' (aSpoil g c n).2 → p (aSpoil g c n).1 h') : mI (Kd sL (d + 9)) 68 [.inr (.inr (.inr 0)), .inl c, .inl n] h p := by
  refine ke_X3_spoil ?_
  refine EX.go (Kd_mono _ _) [false, false, false, false, false] 40 0 ?_
  dsimp only [wpc_s, wsl_t, wsl_f, gD_0, gD_s, ↓denB_n, pI_s, pG_s, pU_n, cb_X3_spoil_0, cb_X3_spoil_1, cb_X3_spoil_2, cb_X3_spoil_3, cb_X3_spoil_4, ↓ev_iload_n_1, ↓ev_calls_1_0_1, ↓ev_calls_1_1_1, ↓ev_calls_1_2_1, ↓ev_calls_1_3_1, ↓ev_calls_1_4_1, ↓ev_if_eq, ↓ev_iload_n_2, ↓ev_if_lt, ↓ev_bipush_99, ↓ev_icmp_le, ↓ev_aload_n_0, ↓ev_sipush_m1001, ↓ev_callv_2_0_1, ↓ev_callv_2_1_1, ↓ev_callv_2_2_1, ↓ev_callv_2_3_1, ↓ev_callv_2_4_1, ↓ev_iret, ↓ev_getf_3_0, ↓ev_getf_0_1, ↓ev_iald_m1, ↓ev_iald_m2, ↓ev_iald_m3, ↓ev_iald_m4, ↓ev_iald_m5, ↓ev_iald_m6, ↓ev_iald_o1, ↓ev_iald_o6, ↓ev_istore_n_3, ↓ev_iast_m1, ↓ev_iast_m2, ↓ev_iast_m3, ↓ev_iast_m4, ↓ev_iast_m5, ↓ev_iast_m6, ↓ev_iast_o1, ↓ev_iast_o6, ↓ev_iload_n_3, Nat.reduceAdd]
  unfold aSpoil at hp
  refine k_isClusterD ?_
  try simp (disch := omega) only [pk_mul, nI_add, n_lt0, n_le0, n_eq0, n_ge0, n_gt0, n_lt, n_le, n_eq, n_in, n_div, n_rem, n_rem2, n_m1, nI_clamp, bz_0, bz_1, tI_0, tI_bz, n4, n16, eq_self, Nat.reduceLT, Nat.reduceLeDiff, Nat.reduceEqDiff, Nat.reduceAdd, Nat.reduceMul, Nat.reduceDiv, Nat.reduceMod, Nat.le_refl, decide_eq_false_iff_not, Classical.not_not, true_and, and_true, false_and, and_false, not_true_eq_false, not_false_eq_true, forall_const, true_implies, false_implies, implies_true, ne_eq, dec_f]
  refine ⟨fun c1 => ?_, fun c1 => ⟨fun c2 => ?_, fun c2 => ⟨fun c3 => ?_, fun c3 => ?_⟩⟩⟩
  · rw [if_neg (by rw [dec_t]; exact fun z => c1 z.1)] at hp
    exact k_rfA (j := 0) hG (by decide) hp
  · rw [if_neg (by rw [dec_t]; exact fun z => z.2.1 c2)] at hp
    exact k_rfA (j := 0) hG (by decide) hp
  · rw [if_pos (by rw [dec_t]; exact ⟨c1, c2, c3⟩)] at hp
    obtain ⟨k, hk1, hk, rfl⟩ := pc_x c1
    rw [nI_clamp (by omega)] at hp
    have e2 := hG.1.2.1 k hk
    try simp (disch := omega) only [pk_mul, nI_add, n_lt0, n_le0, n_eq0, n_ge0, n_gt0, n_lt, n_le, n_eq, n_in, n_div, n_rem, n_rem2, n_m1, nI_clamp, bz_0, bz_1, tI_0, tI_bz, n4, n16, eq_self, Nat.reduceLT, Nat.reduceLeDiff, Nat.reduceEqDiff, Nat.reduceAdd, Nat.reduceMul, Nat.reduceDiv, Nat.reduceMod, Nat.le_refl, decide_eq_false_iff_not, Classical.not_not, true_and, and_true, false_and, and_false, not_true_eq_false, not_false_eq_true, forall_const, true_implies, false_implies, implies_true, ne_eq, e2]
    exact ⟨hk, hk, hp _ (Oi.up (i := 0)).fx (hG.oi0 Oi.up (hG.1.cnt1 hk n))⟩
  · rw [if_neg (by rw [dec_t]; exact fun z => c3 z.2.2)] at hp
    exact k_rfA (j := 0) hG (by decide) hp
theorem c_all {w : Int32} {p : Int64 → mH → Prop} (hG : CG h g) (hp : ∀ h', FX h h' → CG h' g → p (aAll g w) h') : mG (Kd sL (d + 9)) 69 [.inr (.inr (.inr 0)), .inl w] h p := by
  refine ke_X3_all ?_
  refine EX.go (Kd_mono _ _) [false, false, false, false, false, false] 40 0 ?_
  dsimp only [wpc_s, wsl_t, wsl_f, gD_0, gD_s, ↓denB_n, pI_s, pG_s, pU_n, cb_X3_all_0, cb_X3_all_1, cb_X3_all_2, cb_X3_all_3, cb_X3_all_4, cb_X3_all_5, ↓ev_iload_n_1, ↓ev_tsw_0_4, ↓ev_aload_n_0, ↓ev_getf_3_0, ↓ev_callv_1_0_2, ↓ev_callv_1_1_2, ↓ev_callv_1_2_2, ↓ev_callv_1_3_2, ↓ev_callv_1_4_2, ↓ev_lret, ↓ev_lconst_0, Nat.reduceAdd]
  unfold aAll at hp
  refine ⟨fun c2 => ?_, fun c2 => ⟨fun c3 => ?_, fun c3 => ⟨fun c4 => ?_, fun c4 => ⟨fun c5 => ?_, fun c5 => ?_⟩⟩⟩⟩
  · rw [if_pos c2] at hp
    exact k_leakSet hG.1 (fun h1 o1 c1 => hp h1 o1.fx (hG.oi o1 c1))
  · rw [if_neg c2, if_pos c3] at hp
    exact k_lackSet hG.1 (fun h1 o1 c1 => hp h1 o1.fx (hG.oi o1 c1))
  · rw [if_neg c2, if_neg c3, if_pos c4] at hp
    exact k_freeSet hG.1 (hp h FX.rf hG)
  · rw [if_neg c2, if_neg c3, if_neg c4, if_pos c5] at hp
    exact k_sharedData hG.1 (fun h1 o1 c1 => hp h1 o1.fx (hG.oi o1 c1))
  · rw [if_neg c2, if_neg c3, if_neg c4, if_neg c5] at hp
    exact hp h FX.rf hG
theorem c_repair (hG : CG h g) (hp : ∀ h', FX h h' → CG h' (aRepair g).2 → p (aRepair g).1 h') : mI (Kd sL (d + 9)) 70 [.inr (.inr (.inr 0))] h p := by
  refine ke_X3_repair ?_
  refine EX.go (Kd_mono _ _) [false] 40 0 ?_
  dsimp only [wpc_s, wsl_t, wsl_f, gD_0, gD_s, ↓denB_n, pI_s, pG_s, pU_n, cb_X3_repair_0, ↓ev_aload_n_0, ↓ev_getf_3_0, ↓ev_callv_1_0_1, ↓ev_callv_1_1_1, ↓ev_callv_1_2_1, ↓ev_callv_1_3_1, ↓ev_callv_1_4_1, ↓ev_iret, Nat.reduceAdd]
  exact k_mendCounts hG.1 (fun h1 o1 c1 => hp h1 o1.fx (hG.oi0 o1 c1))
theorem k_holderOf {w : Int32} (hp : p (match hdr w with
    | some x => nI x
    | none => -1) h) : mI (Kd sL (d + 1)) 99 [.inl w] h p := by
  refine ke_X3_holderOf ?_
  refine EX.go (Kd_mono _ _) [false, false, false, true, false, false, false] 40 0 ?_
  dsimp only [wpc_s, wsl_t, wsl_f, gD_0, gD_s, ↓denB_n, pI_s, pG_s, pU_n, cb_X3_holderOf_0, cb_X3_holderOf_1, cb_X3_holderOf_2, cb_X3_holderOf_3, cb_X3_holderOf_4, cb_X3_holderOf_5, cb_X3_holderOf_6, ↓ev_iload_n_0, ↓ev_if_lt, ↓ev_bipush_6, ↓ev_icmp_ge, ↓ev_iret, ↓ev_bipush_10, ↓ev_icmp_lt, ↓ev_bipush_18, ↓ev_isub, ↓ev_iadd, ↓ev_iconst_m1, Nat.reduceAdd]
  have J3 : ¬ (0 ≤ w ∧ w < nI 6) → EX (Kd sL d) sL md_X3_holderOf (pI p) 3 [some (.inl w)] [] h := by
    intro hn
    refine EX.go (Kd_mono _ _) [false, false, false, false, false, false, false] 40 3 ?_
    dsimp only [wpc_s, wsl_t, wsl_f, gD_0, gD_s, ↓denB_n, pI_s, pG_s, pU_n, cb_X3_holderOf_0, cb_X3_holderOf_1, cb_X3_holderOf_2, cb_X3_holderOf_3, cb_X3_holderOf_4, cb_X3_holderOf_5, cb_X3_holderOf_6, ↓ev_iload_n_0, ↓ev_if_lt, ↓ev_bipush_6, ↓ev_icmp_ge, ↓ev_iret, ↓ev_bipush_10, ↓ev_icmp_lt, ↓ev_bipush_18, ↓ev_isub, ↓ev_iadd, ↓ev_iconst_m1, Nat.reduceAdd]
    unfold hdr at hp
    rw [if_neg hn] at hp
    refine ⟨fun c => ?_, fun c => ⟨fun c2 => ?_, fun c2 => ?_⟩⟩
    · rw [if_neg (fun z => Int32.not_le.mpr c z.1)] at hp
      exact hp
    · rw [if_neg (fun z => Int32.not_lt.mpr c2 z.2)] at hp
      exact hp
    · rw [if_pos ⟨Int32.not_lt.mp c, Int32.not_le.mp c2⟩] at hp
      have h0 : ¬ w < 0 := fun z => c (Int32.lt_of_lt_of_le z (by decide))
      obtain ⟨k, hk, rfl⟩ := (i_cases w).resolve_left h0
      have h1 := Int32.not_lt.mp c
      rw [n_le (by decide) hk] at h1
      rw [nI_clamp hk] at hp
      try simp (disch := omega) only [pk_mul, nI_add, n_lt0, n_le0, n_eq0, n_ge0, n_gt0, n_lt, n_le, n_eq, n_in, n_div, n_rem, n_rem2, n_m1, nI_clamp, bz_0, bz_1, tI_0, tI_bz, n4, n16, eq_self, Nat.reduceLT, Nat.reduceLeDiff, Nat.reduceEqDiff, Nat.reduceAdd, Nat.reduceMul, Nat.reduceDiv, Nat.reduceMod, Nat.le_refl, decide_eq_false_iff_not, Classical.not_not, true_and, and_true, false_and, and_false, not_true_eq_false, not_false_eq_true, forall_const, true_implies, false_implies, implies_true, ne_eq, n_sub]
      rwa [show k - 10 + 6 = k - 4 by omega]
  refine ⟨fun c => J3 (fun z => Int32.not_lt.mpr z.1 c), fun c => ⟨fun c2 => J3 (fun z => Int32.not_lt.mpr c2 z.2), fun c2 => ?_⟩⟩
  unfold hdr at hp
  rw [if_pos ⟨Int32.not_lt.mp c, Int32.not_le.mp c2⟩] at hp
  obtain ⟨k, hk, rfl⟩ := (i_cases w).resolve_left c
  rwa [nI_clamp hk] at hp
theorem hdr_lt {w : Int32} {x : Nat} (h : hdr w = some x) : x < 14 := by
  unfold hdr at h
  split at h
  · rename_i c
    cases h
    obtain ⟨k, hk, rfl⟩ := (i_cases w).resolve_left (Int32.not_lt.mpr c.1)
    have := c.2
    rw [n_lt hk (by decide)] at this
    rw [nI_clamp hk]
    omega
  · split at h
    · rename_i c
      cases h
      obtain ⟨k, hk, rfl⟩ := (i_cases w).resolve_left (fun z => Int32.not_lt.mpr c.1 (Int32.lt_of_lt_of_le z (by decide)))
      have := c.2
      rw [n_lt hk (by decide)] at this
      rw [nI_clamp hk]
      omega
    · cases h
theorem c_holds {w : Int32} {p : Int64 → mH → Prop} (hG : CG h g) (hp : p (aHolds g.1 w) h) : mG (Kd sL (d + 9)) 71 [.inr (.inr (.inr 0)), .inl w] h p := by
  refine ke_X3_holds ?_
  refine EX.go (Kd_mono _ _) [false] 40 0 ?_
  dsimp only [wpc_s, wsl_t, wsl_f, gD_0, gD_s, ↓denB_n, pI_s, pG_s, pU_n, cb_X3_holds_0, ↓ev_aload_n_0, ↓ev_getf_3_0, ↓ev_iload_n_1, ↓ev_calls_1_0_1, ↓ev_calls_1_1_1, ↓ev_calls_1_2_1, ↓ev_calls_1_3_1, ↓ev_calls_1_4_1, ↓ev_callv_2_0_2, ↓ev_callv_2_1_2, ↓ev_callv_2_2_2, ↓ev_callv_2_3_2, ↓ev_callv_2_4_2, ↓ev_lret, Nat.reduceAdd]
  refine k_holderOf ?_
  unfold aHolds at hp
  cases hx : hdr w with
  | none =>
    rw [hx] at hp
    exact k_heldBy_none hG.1 hp
  | some x =>
    rw [hx] at hp
    exact k_heldBy hG.1 (hdr_lt hx) hp
theorem c_alone {w : Int32} {p : Int64 → mH → Prop} (hG : CG h g) (hp : p (aAlone g.1 w) h) : mG (Kd sL (d + 9)) 72 [.inr (.inr (.inr 0)), .inl w] h p := by
  refine ke_X3_alone ?_
  refine EX.go (Kd_mono _ _) [false, true, false, false, false, false] 40 0 ?_
  dsimp only [wpc_s, wsl_t, wsl_f, gD_0, gD_s, ↓denB_n, pI_s, pG_s, pU_n, cb_X3_alone_0, cb_X3_alone_1, cb_X3_alone_2, cb_X3_alone_3, cb_X3_alone_4, cb_X3_alone_5, ↓ev_iload_n_1, ↓ev_calls_1_0_1, ↓ev_calls_1_1_1, ↓ev_calls_1_2_1, ↓ev_calls_1_3_1, ↓ev_calls_1_4_1, ↓ev_istore_n_2, ↓ev_lconst_0, ↓ev_lstore_n_3, ↓ev_iconst_0, ↓ev_istore_5, ↓ev_iload_5, ↓ev_bipush_14, ↓ev_icmp_ge, ↓ev_iload_n_2, ↓ev_icmp_eq, ↓ev_lload_n_3, ↓ev_aload_n_0, ↓ev_getf_3_0, ↓ev_callv_2_0_2, ↓ev_callv_2_1_2, ↓ev_callv_2_2_2, ↓ev_callv_2_3_2, ↓ev_callv_2_4_2, ↓ev_lor, ↓ev_iinc_5_1, ↓ev_goto, ↓ev_ldc2_18446744073709551615, ↓ev_lxor, ↓ev_land, ↓ev_lret, Nat.reduceAdd]
  refine k_holderOf ?_
  generalize hy : (match hdr w with
    | some x => nI x
    | none => -1 : Int32) = y
  have hyn : ∀ k, k < 14 → (nI k = y ↔ hdr w = some k) := by
    intro k hk
    cases hx : hdr w with
    | none =>
      rw [hx] at hy
      rw [← hy]
      simp only [n_m1 (show k < 2 ^ 31 by omega)]
      simp
    | some x =>
      rw [hx] at hy
      rw [← hy, n_eq (by omega) (by have := hdr_lt hx; omega)]
      simp only [Option.some.injEq]
      exact eq_comm
  suffices H : ∀ (f k : Nat) (z : Int64), k + f = 14 → (∀ c, c < 64 → tbit z c = dec (∃ e, e < k ∧ ¬ hdr w = some e ∧ hld g.1 e c)) → EX (Kd sL (d + 8)) sL md_X3_alone (pG p) 1 [some (.inr (.inr (.inr 0))), some (.inl w), some (.inl y), some (.inr (.inl z)), none, some (.inl (nI k))] [] h by
    refine H 14 0 (lN 0) rfl (fun c _ => ?_)
    rw [tbit_0]
    refine Eq.symm ?_
    rw [dec_f]
    rintro ⟨e, he, -⟩
    omega
  intro f
  induction f with
  | zero =>
    intro k z hk hz
    refine EX.go (Kd_mono _ _) [false, true, false, false, false, false] 40 1 ?_
    dsimp only [wpc_s, wsl_t, wsl_f, gD_0, gD_s, ↓denB_n, pI_s, pG_s, pU_n, cb_X3_alone_0, cb_X3_alone_1, cb_X3_alone_2, cb_X3_alone_3, cb_X3_alone_4, cb_X3_alone_5, ↓ev_iload_n_1, ↓ev_calls_1_0_1, ↓ev_calls_1_1_1, ↓ev_calls_1_2_1, ↓ev_calls_1_3_1, ↓ev_calls_1_4_1, ↓ev_istore_n_2, ↓ev_lconst_0, ↓ev_lstore_n_3, ↓ev_iconst_0, ↓ev_istore_5, ↓ev_iload_5, ↓ev_bipush_14, ↓ev_icmp_ge, ↓ev_iload_n_2, ↓ev_icmp_eq, ↓ev_lload_n_3, ↓ev_aload_n_0, ↓ev_getf_3_0, ↓ev_callv_2_0_2, ↓ev_callv_2_1_2, ↓ev_callv_2_2_2, ↓ev_callv_2_3_2, ↓ev_callv_2_4_2, ↓ev_lor, ↓ev_iinc_5_1, ↓ev_goto, ↓ev_ldc2_18446744073709551615, ↓ev_lxor, ↓ev_land, ↓ev_lret, Nat.reduceAdd]
    try simp (disch := omega) only [pk_mul, nI_add, n_lt0, n_le0, n_eq0, n_ge0, n_gt0, n_lt, n_le, n_eq, n_in, n_div, n_rem, n_rem2, n_m1, nI_clamp, bz_0, bz_1, tI_0, tI_bz, n4, n16, eq_self, Nat.reduceLT, Nat.reduceLeDiff, Nat.reduceEqDiff, Nat.reduceAdd, Nat.reduceMul, Nat.reduceDiv, Nat.reduceMod, Nat.le_refl, decide_eq_false_iff_not, Classical.not_not, true_and, and_true, false_and, and_false, not_true_eq_false, not_false_eq_true, forall_const, true_implies, false_implies, implies_true, ne_eq]
    refine ⟨fun _ => ?_, fun c => absurd (show 14 ≤ k by omega) c⟩
    unfold aAlone at hp
    cases hx : hdr w with
    | none =>
      rw [hx] at hp hy
      subst hy
      refine k_heldBy_none hG.1 ?_
      rw [show lN 0 &&& (z ^^^ lN 18446744073709551615) = lN 0 from ?_]
      · exact hp
      · apply tbit_ext
        intro c _
        rw [tbit_and, tbit_0]
        rfl
    | some x =>
      rw [hx] at hp hy
      subst hy
      refine k_heldBy hG.1 (hdr_lt hx) ?_
      rw [show lOr (fun c => dec (hld g.1 x c)) 64 &&& (z ^^^ lN 18446744073709551615) = lOr (fun c => dec (hld g.1 x c ∧ ∀ y, y < 14 → y ≠ x → ¬ hld g.1 y c)) 64 from lOr_eq (fun c hc => ?_)]
      · exact hp
      · rw [tbit_and, tbit_xor, hz c hc, tbit_m1 c hc, tbit_lOr _ 64 c (by omega)]
        simp only [hc, decide_true, Bool.true_and, Bool.bne_true]
        rw [Bool.eq_iff_iff]
        simp only [Bool.and_eq_true, Bool.not_eq_true', dec_t, dec_f]
        constructor
        · rintro ⟨a1, a2⟩
          refine ⟨a1, fun y hy hne hh => a2 ⟨y, by omega, ?_, hh⟩⟩
          rw [hx]
          simp only [Option.some.injEq]
          exact fun e => hne e.symm
        · rintro ⟨a1, a2⟩
          refine ⟨a1, ?_⟩
          rintro ⟨e, he, hne, hh⟩
          rw [hx] at hne
          exact a2 e (by omega) (fun z => hne (by rw [z])) hh
  | succ f ih =>
    intro k z hk hz
    refine EX.go (Kd_mono _ _) [false, true, false, false, false, false] 40 1 ?_
    dsimp only [wpc_s, wsl_t, wsl_f, gD_0, gD_s, ↓denB_n, pI_s, pG_s, pU_n, cb_X3_alone_0, cb_X3_alone_1, cb_X3_alone_2, cb_X3_alone_3, cb_X3_alone_4, cb_X3_alone_5, ↓ev_iload_n_1, ↓ev_calls_1_0_1, ↓ev_calls_1_1_1, ↓ev_calls_1_2_1, ↓ev_calls_1_3_1, ↓ev_calls_1_4_1, ↓ev_istore_n_2, ↓ev_lconst_0, ↓ev_lstore_n_3, ↓ev_iconst_0, ↓ev_istore_5, ↓ev_iload_5, ↓ev_bipush_14, ↓ev_icmp_ge, ↓ev_iload_n_2, ↓ev_icmp_eq, ↓ev_lload_n_3, ↓ev_aload_n_0, ↓ev_getf_3_0, ↓ev_callv_2_0_2, ↓ev_callv_2_1_2, ↓ev_callv_2_2_2, ↓ev_callv_2_3_2, ↓ev_callv_2_4_2, ↓ev_lor, ↓ev_iinc_5_1, ↓ev_goto, ↓ev_ldc2_18446744073709551615, ↓ev_lxor, ↓ev_land, ↓ev_lret, Nat.reduceAdd]
    try simp (disch := omega) only [pk_mul, nI_add, n_lt0, n_le0, n_eq0, n_ge0, n_gt0, n_lt, n_le, n_eq, n_in, n_div, n_rem, n_rem2, n_m1, nI_clamp, bz_0, bz_1, tI_0, tI_bz, n4, n16, eq_self, Nat.reduceLT, Nat.reduceLeDiff, Nat.reduceEqDiff, Nat.reduceAdd, Nat.reduceMul, Nat.reduceDiv, Nat.reduceMod, Nat.le_refl, decide_eq_false_iff_not, Classical.not_not, true_and, and_true, false_and, and_false, not_true_eq_false, not_false_eq_true, forall_const, true_implies, false_implies, implies_true, ne_eq]
    refine ⟨fun c => absurd c (by omega), fun _ => ⟨fun c => ?_, fun c => ?_⟩⟩
    · have hw := (hyn k (by omega)).mp c
      refine ih (k + 1) z (by omega) (fun e he => ?_)
      rw [hz e he]
      apply dec_iff
      constructor
      · rintro ⟨q, a1, a2, a3⟩
        exact ⟨q, by omega, a2, a3⟩
      · rintro ⟨q, a1, a2, a3⟩
        rcases Nat.lt_or_ge q k with z1 | z1
        · exact ⟨q, z1, a2, a3⟩
        · rw [show q = k by omega] at a2
          exact absurd hw a2
    · have hw : ¬ hdr w = some k := fun z => c ((hyn k (by omega)).mpr z)
      refine k_heldBy hG.1 (by omega) ?_
      refine ih (k + 1) _ (by omega) (fun e he => ?_)
      rw [tbit_or, hz e he, tbit_lOr _ 64 e (by omega)]
      simp only [he, decide_true, Bool.true_and]
      rw [dec_or]
      apply dec_iff
      constructor
      · rintro (⟨q, a1, a2, a3⟩ | a3)
        · exact ⟨q, by omega, a2, a3⟩
        · exact ⟨k, by omega, hw, a3⟩
      · rintro ⟨q, a1, a2, a3⟩
        rcases Nat.lt_or_ge q k with z1 | z1
        · exact Or.inl ⟨q, z1, a2, a3⟩
        · rw [show q = k by omega] at a3
          exact Or.inr a3
end PB3
