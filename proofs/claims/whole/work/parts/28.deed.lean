/-! ===== class Thought: the deeds ===== -/
/-- releasing a table; the tables of a row -/
def rlk (L t : Nat) : Nat → Nat → Sg → Sg
  | 0, _, σ => σ
  | f + 1, k, σ => if σ.1 t = 0 then rlk L t f (k + 1) (addc L (dt σ.1 t k) (-1) σ) else σ
def rel1 (L t : Nat) (σ : Sg) : Sg := if t = 0 then σ else rlk L t 4 0 (addc L t (-1) σ)
def rlF (L : Nat) (T : Nat → Nat) : Nat → Sg → Sg
  | 0, σ => σ
  | i + 1, σ => rel1 L (T i) (rlF L T i σ)
/-- one more of each table of a directory -/
def csF (L dd : Nat) : Nat → Sg → Sg
  | 0, σ => σ
  | i + 1, σ => addc L (tb (csF L dd i σ).1 dd i) (nI 1) (csF L dd i σ)
def wrec (S : St) (l s : Nat) : St := fun j => if j = 383 + s then nI 1 else if j = 391 + s then nI l else if 351 + 4 * s ≤ j ∧ j < 351 + 4 * s + 4 then S (327 + 4 * l + (j - (351 + 4 * s))) else S j
def wdir (S : St) (a b : Nat) : St := fun j => if 327 + 4 * a ≤ j ∧ j < 327 + 4 * a + 4 then S (327 + 4 * b + (j - (327 + 4 * a))) else S j
def wdr0 (S : St) (a : Nat) : St := fun j => if 327 + 4 * a ≤ j ∧ j < 327 + 4 * a + 4 then nI 0 else S j
def snp (L l s : Nat) (σ : Sg) : Sg := gt L (fun S => wrec S l s) (csF L l 4 σ)
def drp (L s : Nat) (σ : Sg) : Sg := rlF L (fun i => tb σ.1 (6 + s) i) 4 (gt L (fun S => upd S (383 + s) (nI 0)) σ)
def rvt (L l s : Nat) (σ : Sg) : Sg := rlF L (fun i => tb σ.1 l i) 4 (gt L (fun S => wdir S l (6 + s)) (csF L (6 + s) 4 σ))
def gvu (L l b : Nat) (σ : Sg) : Sg := if dof σ.1 l b = 0 then σ else addc L (dof σ.1 l b) (-1) (gt L (fun S => upd S (64 + (4 * (own L l (b / 4) σ).1 + b % 4)) (nI 0)) (own L l (b / 4) σ).2)
def mgF (L l bb : Nat) : Nat → Sg → Sg
  | 0, σ => σ
  | p + 1, σ => if dof (mgF L l bb p σ).1 l (p / 4) = 0 then mgF L l bb p σ else wpl L bb p (rdf (mgF L l bb p σ).1 6 (nI l) p) (mgF L l bb p σ)
def mrg (L l bb : Nat) (σ : Sg) : Sg := rlF L (fun i => tb (mgF L l bb 64 σ).1 l i) 4 (gt L (fun S => wdr0 S l) (mgF L l bb 64 σ))
section DEE
variable {sL d L : Nat} {h : mH} {σ : Sg}
/-- as OT, and the tables noted -/
def OU (h h' : mH) : Prop := (∀ r, (∀ q, r ≠ .inl (2, q)) → r ≠ .inr 2 → r ≠ .inr 3 → h' r = h r) ∧ ∀ j, j < 6 → h' (.inr 2) j = h (.inr 2) j
theorem OU.tr {h h1 h2 : mH} (a : OU h h1) (b : OU h1 h2) : OU h h2 := ⟨fun r p q t => (b.1 r p q t).trans (a.1 r p q t), fun j hj => (b.2 j hj).trans (a.2 j hj)⟩
theorem OT.ou {h h' : mH} (a : OT h h') : OU h h' := ⟨fun r p q _ => a.1 r p q, a.2⟩
theorem OT.had {h h' : mH} (a : OT h h') : h' (.inr 3) = h (.inr 3) := a.1 _ (fun _ e => by cases e) (by simp)
theorem k_noteTables {dd : Nat} {p : mH → Prop} (hT : TR h L σ) (hd : dd < 14) (hp : ∀ h', OU h h' → TR h' L σ → (∀ i, i < 4 → h' (.inr 3) i = nI (tb σ.1 dd i)) → p h') : mU (Kd sL (d + 1)) 41 [.inr (.inr (.inr 2)), .inl (nI dd)] h p := by
  refine ke_X2_noteTables ?_
  refine EX.go (Kd_mono _ _) [false] 40 0 ?_
  dsimp only [wpc_s, wsl_t, wsl_f, gD_0, gD_s, ↓denB_n, pI_s, pG_s, pU_n, cb_X2_noteTables_0, ↓ev_aload_n_0, ↓ev_getf_2_0, ↓ev_getf_0_2, ↓ev_iload_n_1, ↓ev_iconst_4, ↓ev_imul, ↓ev_getf_2_8, ↓ev_iconst_0, ↓ev_ret, Nat.reduceAdd]
  try simp (disch := omega) only [pk_mul, nI_add, n_lt0, n_le0, n_eq0, n_ge0, n_gt0, n_lt, n_le, n_eq, n_in, n_div, n_rem, n_rem2, n_m1, nI_clamp, bz_0, bz_1, tI_0, tI_bz, n4, n16, eq_self, Nat.reduceLT, Nat.reduceLeDiff, Nat.reduceEqDiff, Nat.reduceAdd, Nat.reduceMul, Nat.reduceDiv, Nat.reduceMod, Nat.le_refl, decide_eq_false_iff_not, Classical.not_not, true_and, and_true, false_and, and_false, not_true_eq_false, not_false_eq_true, forall_const, true_implies, false_implies, implies_true, ne_eq]
  refine ev_copy rfl rfl (nI_pos' (by omega)) (nI_pos' (by omega)) (by decide) (by rw [nI_clamp (by omega), nI_clamp (by decide)]; omega) (by rw [nI_clamp (by omega), nI_clamp (by decide)]; omega) (by decide) ?_
  dsimp only [wpc_s, wsl_t, wsl_f, gD_0, gD_s, ↓denB_n, pI_s, pG_s, pU_n, cb_X2_noteTables_0, ↓ev_aload_n_0, ↓ev_getf_2_0, ↓ev_getf_0_2, ↓ev_iload_n_1, ↓ev_iconst_4, ↓ev_imul, ↓ev_getf_2_8, ↓ev_iconst_0, ↓ev_ret, Nat.reduceAdd]
  rw [nI_clamp (by omega), nI_clamp (by omega), nI_clamp (by decide)]
  have eo : ∀ (r : mRef), r ≠ .inr 3 → hcp h (.inl (2, 3)) (dd * 4) (.inr 3) 0 4 r = h r := fun r hr => by funext k; simp [hcp, hr]
  obtain ⟨hC, e5, e6, e7, hx⟩ := id hT
  refine hp _ ⟨fun r _ _ q => eo r q, fun j _ => by rw [eo _ (by simp)]⟩ ⟨?_, by rw [eo _ (by simp)]; exact e5, by rw [eo _ (by simp)]; exact e6, by rw [eo _ (by simp)]; exact e7, hx⟩ (fun i hi => ?_)
  · obtain ⟨h1, h2, h3, h4, h5, h6, h7, h8⟩ := hC
    refine ⟨?_, ?_, ?_, ?_, ?_, ?_, h7, ?_⟩
    all_goals (rw [eo _ (by simp)]; assumption)
  · have e : hcp h (.inl (2, 3)) (dd * 4) (.inr 3) 0 4 (.inr 3) i = h (.inl (2, 3)) (dd * 4 + i) := by simp [hcp, hi]
    rw [e, Nat.mul_comm]
    exact hC.2.2.1 dd i hd hi
theorem k_releaseNoted {T : Nat → Nat} {p : mH → Prop} (hT : TR h L σ) (hh : ∀ i, i < 4 → h (.inr 3) i = nI (T i)) (hTl : ∀ i, T i < 64) (hp : ∀ h', OT h h' → TR h' L (rlF L T 4 σ) → p h') : mU (Kd sL (d + 3)) 42 [.inr (.inr (.inr 2))] h p := by
  refine ke_X2_releaseNoted ?_
  refine EX.go (Kd_mono _ _) [false, true, false, false, true, false, false, false, false] 40 0 ?_
  dsimp only [wpc_s, wsl_t, wsl_f, gD_0, gD_s, ↓denB_n, pI_s, pG_s, pU_n, cb_X2_releaseNoted_0, cb_X2_releaseNoted_1, cb_X2_releaseNoted_2, cb_X2_releaseNoted_3, cb_X2_releaseNoted_4, cb_X2_releaseNoted_5, cb_X2_releaseNoted_6, cb_X2_releaseNoted_7, cb_X2_releaseNoted_8, ↓ev_iconst_0, ↓ev_istore_n_1, ↓ev_iload_n_1, ↓ev_iconst_4, ↓ev_icmp_ge, ↓ev_aload_n_0, ↓ev_getf_2_8, ↓ev_iald_m1, ↓ev_iald_m2, ↓ev_iald_m3, ↓ev_iald_m4, ↓ev_iald_m5, ↓ev_iald_m6, ↓ev_iald_o3, ↓ev_istore_n_2, ↓ev_iload_n_2, ↓ev_calls_1_0_1, ↓ev_calls_1_1_1, ↓ev_calls_1_2_1, ↓ev_calls_1_3_1, ↓ev_calls_1_4_1, ↓ev_if_eq, ↓ev_iconst_m1, ↓ev_callv_3_0_0, ↓ev_callv_3_1_0, ↓ev_callv_3_2_0, ↓ev_callv_3_3_0, ↓ev_callv_3_4_0, ↓ev_istore_n_3, ↓ev_iload_n_3, ↓ev_getf_2_0, ↓ev_getf_0_1, ↓ev_if_ne, ↓ev_callv_3_0_1, ↓ev_callv_3_1_1, ↓ev_callv_3_2_1, ↓ev_callv_3_3_1, ↓ev_callv_3_4_1, ↓ev_callv_3_5_1, ↓ev_iinc_3_1, ↓ev_goto, ↓ev_iinc_1_1, ↓ev_ret, Nat.reduceAdd]
  suffices H : ∀ (f k : Nat) (h2 : mH) (o2 o3 : Option mV), k + f = 4 → OT h h2 → TR h2 L (rlF L T k σ) → EX (Kd sL (d + 2)) sL md_X2_releaseNoted (pU p) 1 [some (.inr (.inr (.inr 2))), some (.inl (nI k)), o2, o3] [] h2 from H 4 0 h _ _ rfl OT.rf hT
  intro f
  induction f with
  | zero =>
    intro k h2 o2 o3 hk o t
    refine EX.go (Kd_mono _ _) [false, true, false, false, true, false, false, false, false] 40 1 ?_
    dsimp only [wpc_s, wsl_t, wsl_f, gD_0, gD_s, ↓denB_n, pI_s, pG_s, pU_n, cb_X2_releaseNoted_0, cb_X2_releaseNoted_1, cb_X2_releaseNoted_2, cb_X2_releaseNoted_3, cb_X2_releaseNoted_4, cb_X2_releaseNoted_5, cb_X2_releaseNoted_6, cb_X2_releaseNoted_7, cb_X2_releaseNoted_8, ↓ev_iconst_0, ↓ev_istore_n_1, ↓ev_iload_n_1, ↓ev_iconst_4, ↓ev_icmp_ge, ↓ev_aload_n_0, ↓ev_getf_2_8, ↓ev_iald_m1, ↓ev_iald_m2, ↓ev_iald_m3, ↓ev_iald_m4, ↓ev_iald_m5, ↓ev_iald_m6, ↓ev_iald_o3, ↓ev_istore_n_2, ↓ev_iload_n_2, ↓ev_calls_1_0_1, ↓ev_calls_1_1_1, ↓ev_calls_1_2_1, ↓ev_calls_1_3_1, ↓ev_calls_1_4_1, ↓ev_if_eq, ↓ev_iconst_m1, ↓ev_callv_3_0_0, ↓ev_callv_3_1_0, ↓ev_callv_3_2_0, ↓ev_callv_3_3_0, ↓ev_callv_3_4_0, ↓ev_istore_n_3, ↓ev_iload_n_3, ↓ev_getf_2_0, ↓ev_getf_0_1, ↓ev_if_ne, ↓ev_callv_3_0_1, ↓ev_callv_3_1_1, ↓ev_callv_3_2_1, ↓ev_callv_3_3_1, ↓ev_callv_3_4_1, ↓ev_callv_3_5_1, ↓ev_iinc_3_1, ↓ev_goto, ↓ev_iinc_1_1, ↓ev_ret, Nat.reduceAdd]
    try simp (disch := omega) only [pk_mul, nI_add, n_lt0, n_le0, n_eq0, n_ge0, n_gt0, n_lt, n_le, n_eq, n_in, n_div, n_rem, n_rem2, n_m1, nI_clamp, bz_0, bz_1, tI_0, tI_bz, n4, n16, eq_self, Nat.reduceLT, Nat.reduceLeDiff, Nat.reduceEqDiff, Nat.reduceAdd, Nat.reduceMul, Nat.reduceDiv, Nat.reduceMod, Nat.le_refl, decide_eq_false_iff_not, Classical.not_not, true_and, and_true, false_and, and_false, not_true_eq_false, not_false_eq_true, forall_const, true_implies, false_implies, implies_true, ne_eq]
    rw [show k = 4 by omega] at t
    exact ⟨fun _ => hp h2 o t, fun c2 => absurd (show 4 ≤ k by omega) c2⟩
  | succ f ih =>
    intro k h2 o2 o3 hk o t
    refine EX.go (Kd_mono _ _) [false, true, false, false, true, false, false, true, false] 40 1 ?_
    dsimp only [wpc_s, wsl_t, wsl_f, gD_0, gD_s, ↓denB_n, pI_s, pG_s, pU_n, cb_X2_releaseNoted_0, cb_X2_releaseNoted_1, cb_X2_releaseNoted_2, cb_X2_releaseNoted_3, cb_X2_releaseNoted_4, cb_X2_releaseNoted_5, cb_X2_releaseNoted_6, cb_X2_releaseNoted_7, cb_X2_releaseNoted_8, ↓ev_iconst_0, ↓ev_istore_n_1, ↓ev_iload_n_1, ↓ev_iconst_4, ↓ev_icmp_ge, ↓ev_aload_n_0, ↓ev_getf_2_8, ↓ev_iald_m1, ↓ev_iald_m2, ↓ev_iald_m3, ↓ev_iald_m4, ↓ev_iald_m5, ↓ev_iald_m6, ↓ev_iald_o3, ↓ev_istore_n_2, ↓ev_iload_n_2, ↓ev_calls_1_0_1, ↓ev_calls_1_1_1, ↓ev_calls_1_2_1, ↓ev_calls_1_3_1, ↓ev_calls_1_4_1, ↓ev_if_eq, ↓ev_iconst_m1, ↓ev_callv_3_0_0, ↓ev_callv_3_1_0, ↓ev_callv_3_2_0, ↓ev_callv_3_3_0, ↓ev_callv_3_4_0, ↓ev_istore_n_3, ↓ev_iload_n_3, ↓ev_getf_2_0, ↓ev_getf_0_1, ↓ev_if_ne, ↓ev_callv_3_0_1, ↓ev_callv_3_1_1, ↓ev_callv_3_2_1, ↓ev_callv_3_3_1, ↓ev_callv_3_4_1, ↓ev_callv_3_5_1, ↓ev_iinc_3_1, ↓ev_goto, ↓ev_iinc_1_1, ↓ev_ret, Nat.reduceAdd]
    have eh : h2 (.inr 3) k = nI (T k) := by rw [o.had]; exact hh k (by omega)
    have htk := hTl k
    try simp (disch := omega) only [pk_mul, nI_add, n_lt0, n_le0, n_eq0, n_ge0, n_gt0, n_lt, n_le, n_eq, n_in, n_div, n_rem, n_rem2, n_m1, nI_clamp, bz_0, bz_1, tI_0, tI_bz, n4, n16, eq_self, Nat.reduceLT, Nat.reduceLeDiff, Nat.reduceEqDiff, Nat.reduceAdd, Nat.reduceMul, Nat.reduceDiv, Nat.reduceMod, Nat.le_refl, decide_eq_false_iff_not, Classical.not_not, true_and, and_true, false_and, and_false, not_true_eq_false, not_false_eq_true, forall_const, true_implies, false_implies, implies_true, ne_eq, eh]
    refine ⟨fun c2 => absurd c2 (by omega), fun _ => ⟨by omega, k_isCluster ?_⟩⟩
    try simp (disch := omega) only [pk_mul, nI_add, n_lt0, n_le0, n_eq0, n_ge0, n_gt0, n_lt, n_le, n_eq, n_in, n_div, n_rem, n_rem2, n_m1, nI_clamp, bz_0, bz_1, tI_0, tI_bz, n4, n16, eq_self, Nat.reduceLT, Nat.reduceLeDiff, Nat.reduceEqDiff, Nat.reduceAdd, Nat.reduceMul, Nat.reduceDiv, Nat.reduceMod, Nat.le_refl, decide_eq_false_iff_not, Classical.not_not, true_and, and_true, false_and, and_false, not_true_eq_false, not_false_eq_true, forall_const, true_implies, false_implies, implies_true, ne_eq]
    have ih2 := fun h3 o2 o3 o' t' => ih (k + 1) h3 o2 o3 (by omega) o' t'
    have J7 : ∀ (h3 : mH) (o3 : Option mV), OT h h3 → TR h3 L (rlF L T (k + 1) σ) → EX (Kd sL (d + 2)) sL md_X2_releaseNoted (pU p) 7 [some (.inr (.inr (.inr 2))), some (.inl (nI k)), some (.inl (nI (T k))), o3] [] h3 := by
      intro h3 o3 o' t'
      refine EX.go (Kd_mono _ _) [false, true, false, false, true, false, false, false, false] 40 7 ?_
      dsimp only [wpc_s, wsl_t, wsl_f, gD_0, gD_s, ↓denB_n, pI_s, pG_s, pU_n, cb_X2_releaseNoted_0, cb_X2_releaseNoted_1, cb_X2_releaseNoted_2, cb_X2_releaseNoted_3, cb_X2_releaseNoted_4, cb_X2_releaseNoted_5, cb_X2_releaseNoted_6, cb_X2_releaseNoted_7, cb_X2_releaseNoted_8, ↓ev_iconst_0, ↓ev_istore_n_1, ↓ev_iload_n_1, ↓ev_iconst_4, ↓ev_icmp_ge, ↓ev_aload_n_0, ↓ev_getf_2_8, ↓ev_iald_m1, ↓ev_iald_m2, ↓ev_iald_m3, ↓ev_iald_m4, ↓ev_iald_m5, ↓ev_iald_m6, ↓ev_iald_o3, ↓ev_istore_n_2, ↓ev_iload_n_2, ↓ev_calls_1_0_1, ↓ev_calls_1_1_1, ↓ev_calls_1_2_1, ↓ev_calls_1_3_1, ↓ev_calls_1_4_1, ↓ev_if_eq, ↓ev_iconst_m1, ↓ev_callv_3_0_0, ↓ev_callv_3_1_0, ↓ev_callv_3_2_0, ↓ev_callv_3_3_0, ↓ev_callv_3_4_0, ↓ev_istore_n_3, ↓ev_iload_n_3, ↓ev_getf_2_0, ↓ev_getf_0_1, ↓ev_if_ne, ↓ev_callv_3_0_1, ↓ev_callv_3_1_1, ↓ev_callv_3_2_1, ↓ev_callv_3_3_1, ↓ev_callv_3_4_1, ↓ev_callv_3_5_1, ↓ev_iinc_3_1, ↓ev_goto, ↓ev_iinc_1_1, ↓ev_ret, Nat.reduceAdd]
      try simp (disch := omega) only [pk_mul, nI_add, n_lt0, n_le0, n_eq0, n_ge0, n_gt0, n_lt, n_le, n_eq, n_in, n_div, n_rem, n_rem2, n_m1, nI_clamp, bz_0, bz_1, tI_0, tI_bz, n4, n16, eq_self, Nat.reduceLT, Nat.reduceLeDiff, Nat.reduceEqDiff, Nat.reduceAdd, Nat.reduceMul, Nat.reduceDiv, Nat.reduceMod, Nat.le_refl, decide_eq_false_iff_not, Classical.not_not, true_and, and_true, false_and, and_false, not_true_eq_false, not_false_eq_true, forall_const, true_implies, false_implies, implies_true, ne_eq]
      exact ih2 h3 _ _ o' t'
    unfold rlF at J7
    unfold rel1 at J7
    refine ⟨fun c => ?_, fun c => ?_⟩
    · rw [if_pos (by omega)] at J7
      exact J7 h2 _ o t
    · rw [if_neg (by omega)] at J7
      refine k_addToCount t htk (fun h3 o4 t3 => ?_)
      suffices H2 : ∀ (f2 k2 : Nat) (h4 : mH) (σ4 : Sg), k2 + f2 = 4 → OT h h4 → TR h4 L σ4 → rlk L (T k) 4 0 (addc L (T k) (-1) (rlF L T k σ)) = rlk L (T k) f2 k2 σ4 → EX (Kd sL (d + 2)) sL md_X2_releaseNoted (pU p) 4 [some (.inr (.inr (.inr 2))), some (.inl (nI k)), some (.inl (nI (T k))), some (.inl (nI k2))] [] h4 from H2 4 0 h3 _ rfl (o.tr o4) t3 rfl
      intro f2
      induction f2 with
      | zero =>
        intro k2 h4 σ4 hk2 o5 t5 he
        refine EX.go (Kd_mono _ _) [false, true, false, false, true, false, false, true, false] 40 4 ?_
        dsimp only [wpc_s, wsl_t, wsl_f, gD_0, gD_s, ↓denB_n, pI_s, pG_s, pU_n, cb_X2_releaseNoted_0, cb_X2_releaseNoted_1, cb_X2_releaseNoted_2, cb_X2_releaseNoted_3, cb_X2_releaseNoted_4, cb_X2_releaseNoted_5, cb_X2_releaseNoted_6, cb_X2_releaseNoted_7, cb_X2_releaseNoted_8, ↓ev_iconst_0, ↓ev_istore_n_1, ↓ev_iload_n_1, ↓ev_iconst_4, ↓ev_icmp_ge, ↓ev_aload_n_0, ↓ev_getf_2_8, ↓ev_iald_m1, ↓ev_iald_m2, ↓ev_iald_m3, ↓ev_iald_m4, ↓ev_iald_m5, ↓ev_iald_m6, ↓ev_iald_o3, ↓ev_istore_n_2, ↓ev_iload_n_2, ↓ev_calls_1_0_1, ↓ev_calls_1_1_1, ↓ev_calls_1_2_1, ↓ev_calls_1_3_1, ↓ev_calls_1_4_1, ↓ev_if_eq, ↓ev_iconst_m1, ↓ev_callv_3_0_0, ↓ev_callv_3_1_0, ↓ev_callv_3_2_0, ↓ev_callv_3_3_0, ↓ev_callv_3_4_0, ↓ev_istore_n_3, ↓ev_iload_n_3, ↓ev_getf_2_0, ↓ev_getf_0_1, ↓ev_if_ne, ↓ev_callv_3_0_1, ↓ev_callv_3_1_1, ↓ev_callv_3_2_1, ↓ev_callv_3_3_1, ↓ev_callv_3_4_1, ↓ev_callv_3_5_1, ↓ev_iinc_3_1, ↓ev_goto, ↓ev_iinc_1_1, ↓ev_ret, Nat.reduceAdd]
        try simp (disch := omega) only [pk_mul, nI_add, n_lt0, n_le0, n_eq0, n_ge0, n_gt0, n_lt, n_le, n_eq, n_in, n_div, n_rem, n_rem2, n_m1, nI_clamp, bz_0, bz_1, tI_0, tI_bz, n4, n16, eq_self, Nat.reduceLT, Nat.reduceLeDiff, Nat.reduceEqDiff, Nat.reduceAdd, Nat.reduceMul, Nat.reduceDiv, Nat.reduceMod, Nat.le_refl, decide_eq_false_iff_not, Classical.not_not, true_and, and_true, false_and, and_false, not_true_eq_false, not_false_eq_true, forall_const, true_implies, false_implies, implies_true, ne_eq]
        rw [he] at J7
        exact ⟨fun _ => J7 h4 _ o5 t5, fun c2 => absurd (show 4 ≤ k2 by omega) c2⟩
      | succ f2 ih3 =>
        intro k2 h4 σ4 hk2 o5 t5 he
        refine EX.go (Kd_mono _ _) [false, true, false, false, true, false, false, true, false] 40 4 ?_
        dsimp only [wpc_s, wsl_t, wsl_f, gD_0, gD_s, ↓denB_n, pI_s, pG_s, pU_n, cb_X2_releaseNoted_0, cb_X2_releaseNoted_1, cb_X2_releaseNoted_2, cb_X2_releaseNoted_3, cb_X2_releaseNoted_4, cb_X2_releaseNoted_5, cb_X2_releaseNoted_6, cb_X2_releaseNoted_7, cb_X2_releaseNoted_8, ↓ev_iconst_0, ↓ev_istore_n_1, ↓ev_iload_n_1, ↓ev_iconst_4, ↓ev_icmp_ge, ↓ev_aload_n_0, ↓ev_getf_2_8, ↓ev_iald_m1, ↓ev_iald_m2, ↓ev_iald_m3, ↓ev_iald_m4, ↓ev_iald_m5, ↓ev_iald_m6, ↓ev_iald_o3, ↓ev_istore_n_2, ↓ev_iload_n_2, ↓ev_calls_1_0_1, ↓ev_calls_1_1_1, ↓ev_calls_1_2_1, ↓ev_calls_1_3_1, ↓ev_calls_1_4_1, ↓ev_if_eq, ↓ev_iconst_m1, ↓ev_callv_3_0_0, ↓ev_callv_3_1_0, ↓ev_callv_3_2_0, ↓ev_callv_3_3_0, ↓ev_callv_3_4_0, ↓ev_istore_n_3, ↓ev_iload_n_3, ↓ev_getf_2_0, ↓ev_getf_0_1, ↓ev_if_ne, ↓ev_callv_3_0_1, ↓ev_callv_3_1_1, ↓ev_callv_3_2_1, ↓ev_callv_3_3_1, ↓ev_callv_3_4_1, ↓ev_callv_3_5_1, ↓ev_iinc_3_1, ↓ev_goto, ↓ev_iinc_1_1, ↓ev_ret, Nat.reduceAdd]
        have e : h4 (.inl (2, 2)) (T k) = σ4.1 (T k) := t5.1.2.1 _ htk
        try simp (disch := omega) only [pk_mul, nI_add, n_lt0, n_le0, n_eq0, n_ge0, n_gt0, n_lt, n_le, n_eq, n_in, n_div, n_rem, n_rem2, n_m1, nI_clamp, bz_0, bz_1, tI_0, tI_bz, n4, n16, eq_self, Nat.reduceLT, Nat.reduceLeDiff, Nat.reduceEqDiff, Nat.reduceAdd, Nat.reduceMul, Nat.reduceDiv, Nat.reduceMod, Nat.le_refl, decide_eq_false_iff_not, Classical.not_not, true_and, and_true, false_and, and_false, not_true_eq_false, not_false_eq_true, forall_const, true_implies, false_implies, implies_true, ne_eq, e]
        unfold rlk at he
        refine ⟨fun c2 => absurd c2 (by omega), fun _ => ⟨htk, fun c2 => ?_, fun c2 => ?_⟩⟩
        · rw [if_neg c2] at he
          rw [show rlk L (T k) 4 0 (addc L (T k) (-1) (rlF L T k σ)) = σ4 from he] at J7
          exact J7 h4 _ o5 t5
        · rw [if_pos c2] at he
          refine k_dataAt t5.1 htk (by omega) ?_
          refine k_addToCount t5 (dt_lt _ _ _) (fun h5 o6 t6 => ?_)
          exact ih3 (k2 + 1) h5 _ (by omega) (o5.tr o6) t6 he
theorem CR.gen {h h' : mH} {i : Fin 3} {S S' : St} (hC : CR h i S) (h12 : h' (.inl (i, 1)) = h (.inl (i, 1)) ∧ h' (.inl (i, 2)) = h (.inl (i, 2))) (h4 : ∀ l, l < 6 → h' (.inl (i, 4)) l = bk S' l) (h0 : h' (.inl (i, 0)) = h (.inl (i, 0))) (hlo : ∀ j, j ≤ 320 → S' j = S j) (h9 : S' 399 = S 399)
    (hd : ∀ x k, x < 14 → k < 4 → h' (.inl (i, 3)) (4 * x + k) = nI (tb S' x k)) (hs : ∀ s, s < 8 → h' (.inl (i, 5)) s = sn S' s) : CR h' i S' := by
  obtain ⟨g1, g2, -, g4, -, g6, g7, g8⟩ := hC
  have e1 : mn S' = mn S := by unfold mn; rw [hlo 320 (by decide)]
  refine ⟨fun j hj => ?_, fun j hj => ?_, hd, h4, hs, ?_, ?_, ?_⟩
  · rw [h12.1, g1 j hj, hlo _ (by omega)]
  · rw [h12.2, g2 j hj, hlo _ (by omega)]
  · rw [h0, g6, e1]
  · rw [e1]; exact g7
  · rw [h0, g8, h9]
theorem prs_lay {S : St} {l : Nat} (hl : l < mn S) (h6 : l < 6) : prs S l = true := by
  unfold prs
  rw [if_pos h6]
  simpa using hl
theorem CR.rec {h : mH} {i : Fin 3} {S : St} (hC : CR h i S) {l s : Nat} (hl : l < mn S) (hs : s < 8) : CR (hcp (hup h (.inl (i, 5)) s (nI l)) (.inl (i, 3)) (4 * l) (.inl (i, 3)) (4 * (6 + s)) 4) i (wrec S l s) := by
  have hm := hC.2.2.2.2.2.2.1
  have hp := prs_lay hl (by omega)
  have eo : ∀ (r : mRef) (k : Nat), r ≠ .inl (i, 3) → hcp (hup h (.inl (i, 5)) s (nI l)) (.inl (i, 3)) (4 * l) (.inl (i, 3)) (4 * (6 + s)) 4 r k = hup h (.inl (i, 5)) s (nI l) r k := fun r k hr => by simp [hcp, hr]
  have hlo : ∀ j, j ≠ 383 + s → j ≠ 391 + s → ¬ (351 + 4 * s ≤ j ∧ j < 351 + 4 * s + 4) → wrec S l s j = S j := fun j a b c => by
    unfold wrec
    rw [if_neg a, if_neg b, if_neg c]
  have e1 : mn (wrec S l s) = mn S := by unfold mn; rw [hlo 320 (by omega) (by omega) (by omega)]
  have e2 : ∀ x, x < 14 → prs (wrec S l s) x = if x = 6 + s then true else prs S x := by
    intro x q3
    unfold prs
    rw [e1]
    by_cases q : x < 6
    · rw [if_pos q, if_pos q, if_neg (by omega)]
    · rw [if_neg q, if_neg q]
      by_cases q2 : x = 6 + s
      · rw [if_pos q2]
        have : wrec S l s (377 + x) = nI 1 := by unfold wrec; rw [if_pos (by omega)]
        simp [this]
      · rw [if_neg q2]
        rw [hlo (377 + x) (by omega) (by omega) (by omega)]
  refine hC.gen ⟨by funext k; rw [eo _ _ (by simp), hup_other (by simp)], by funext k; rw [eo _ _ (by simp), hup_other (by simp)]⟩ (fun l' hl' => ?_) (by funext k; rw [eo _ _ (by simp), hup_other (by simp)]) (fun j hj => hlo j (by omega) (by omega) (by omega)) (hlo _ (by omega) (by omega) (by omega)) (fun x k hx hk => ?_) (fun s' hs' => ?_)
  · rw [eo _ _ (by simp), hup_other (by simp), hC.2.2.2.1 l' hl']
    unfold bk
    rw [e1, hlo _ (by omega) (by omega) (by omega)]
  · by_cases q : x = 6 + s
    · have e : hcp (hup h (.inl (i, 5)) s (nI l)) (.inl (i, 3)) (4 * l) (.inl (i, 3)) (4 * (6 + s)) 4 (.inl (i, 3)) (4 * x + k) = hup h (.inl (i, 5)) s (nI l) (.inl (i, 3)) (4 * l + k) := by
        unfold hcp
        rw [if_pos ⟨rfl, by omega, by omega⟩]
        congr 1
        omega
      rw [e, hup_other (by simp), hC.2.2.1 l k (by omega) hk]
      unfold tb
      rw [e2 x hx, if_pos q, hp]
      have : wrec S l s (327 + 4 * x + k) = S (327 + 4 * l + k) := by
        unfold wrec
        rw [if_neg (by omega), if_neg (by omega), if_pos (by omega)]
        congr 1
        omega
      rw [this]
    · have e : hcp (hup h (.inl (i, 5)) s (nI l)) (.inl (i, 3)) (4 * l) (.inl (i, 3)) (4 * (6 + s)) 4 (.inl (i, 3)) (4 * x + k) = hup h (.inl (i, 5)) s (nI l) (.inl (i, 3)) (4 * x + k) := by
        unfold hcp
        rw [if_neg (fun z => by omega)]
      rw [e, hup_other (by simp), hC.2.2.1 x k hx hk]
      unfold tb
      rw [e2 x hx, if_neg q, hlo _ (by omega) (by omega) (by omega)]
  · rw [eo _ _ (by simp)]
    unfold sn
    by_cases q : s' = s
    · subst q
      rw [hup_same]
      have a1 : wrec S l s' (383 + s') = nI 1 := by unfold wrec; rw [if_pos rfl]
      have a2 : wrec S l s' (391 + s') = nI l := by unfold wrec; rw [if_neg (by omega), if_pos rfl]
      rw [a1, a2, if_pos rfl]
    · rw [hup_idx q, hC.2.2.2.2.1 s' hs', hlo _ (by omega) (by omega) (by omega), hlo _ (by omega) (by omega) (by omega)]
      rfl
theorem CR.drop {h h' : mH} {i : Fin 3} {S : St} (hC : CR h i S) {s : Nat} (hs : s < 8) (ho : ∀ r, r ≠ .inl (i, 3) → r ≠ .inl (i, 5) → h' r = h r) (h5 : h' (.inl (i, 5)) = upd (h (.inl (i, 5))) s (-1)) (h3 : ∀ j, j < 56 → h' (.inl (i, 3)) j = if 4 * (6 + s) ≤ j ∧ j < 4 * (6 + s) + 4 then nI 0 else h (.inl (i, 3)) j) : CR h' i (upd S (383 + s) (nI 0)) := by
  have e1 : mn (upd S (383 + s) (nI 0)) = mn S := by unfold mn; rw [pk_un (by omega)]
  have e2 : ∀ x, x < 14 → prs (upd S (383 + s) (nI 0)) x = if x = 6 + s then false else prs S x := by
    intro x hx
    unfold prs
    rw [e1]
    by_cases q : x < 6
    · rw [if_pos q, if_pos q, if_neg (by omega)]
    · rw [if_neg q, if_neg q]
      by_cases q2 : x = 6 + s
      · rw [if_pos q2, show 377 + x = 383 + s by omega, pk_us]
        decide
      · rw [if_neg q2, pk_un (by omega)]
  refine hC.gen ⟨ho _ (by simp) (by simp), ho _ (by simp) (by simp)⟩ (fun l hl => ?_) (ho _ (by simp) (by simp)) (fun j hj => pk_un (by omega)) (pk_un (by omega)) (fun x k hx hk => ?_) (fun s' hs' => ?_)
  · rw [ho _ (by simp) (by simp), hC.2.2.2.1 l hl]
    unfold bk
    rw [e1, pk_un (by omega)]
  · rw [h3 _ (by omega)]
    unfold tb
    rw [e2 x hx]
    by_cases q : x = 6 + s
    · rw [if_pos (by omega), if_pos q]; rfl
    · rw [if_neg (by omega), if_neg q, hC.2.2.1 x k hx hk, pk_un (by omega)]; rfl
  · rw [h5]
    unfold sn
    by_cases q : s' = s
    · subst q
      rw [pk_us, pk_us, if_neg (by decide)]
    · rw [pk_un q, hC.2.2.2.2.1 s' hs', pk_un (by omega), pk_un (by omega)]; rfl
theorem CR.dirs {h h' : mH} {i : Fin 3} {S S' : St} (hC : CR h i S) {a : Nat} (ha : a < mn S) (ho : ∀ r, r ≠ .inl (i, 3) → h' r = h r) (hS : ∀ j, ¬ (327 + 4 * a ≤ j ∧ j < 327 + 4 * a + 4) → S' j = S j) (h3 : ∀ j, j < 56 → ¬ (4 * a ≤ j ∧ j < 4 * a + 4) → h' (.inl (i, 3)) j = h (.inl (i, 3)) j) (h3a : ∀ k, k < 4 → h' (.inl (i, 3)) (4 * a + k) = nI (cl (S' (327 + 4 * a + k)))) : CR h' i S' := by
  have hm := hC.2.2.2.2.2.2.1
  have e1 : mn S' = mn S := by unfold mn; rw [hS 320 (by omega)]
  have e2 : ∀ x, prs S' x = prs S x := fun x => by
    unfold prs
    rw [e1]
    by_cases q : x < 6
    · rw [if_pos q, if_pos q]
    · rw [if_neg q, if_neg q, hS _ (by omega)]
  refine hC.gen ⟨ho _ (by simp), ho _ (by simp)⟩ (fun l hl => ?_) (ho _ (by simp)) (fun j hj => hS j (by omega)) (hS _ (by omega)) (fun x k hx hk => ?_) (fun s' hs' => ?_)
  · rw [ho _ (by simp), hC.2.2.2.1 l hl]
    unfold bk
    rw [e1, hS _ (by omega)]
  · unfold tb
    rw [e2]
    by_cases q : x = a
    · subst q
      rw [h3a k hk, prs_lay ha (by omega)]
      rfl
    · rw [h3 _ (by omega) (by omega), hC.2.2.1 x k hx hk, hS _ (by omega)]
      rfl
  · rw [ho _ (by simp), hC.2.2.2.2.1 s' hs']
    unfold sn
    rw [hS _ (by omega), hS _ (by omega)]
theorem CR.bk1 {h : mH} {i : Fin 3} {S : St} (hC : CR h i S) {l : Nat} (hl : l < mn S) (b : Int32) : CR (hup h (.inl (i, 4)) l b) i (upd S (321 + l) b) := by
  have hm := hC.2.2.2.2.2.2.1
  have e1 : mn (upd S (321 + l) b) = mn S := by unfold mn; rw [pk_un (by omega)]
  have e2 : ∀ x, prs (upd S (321 + l) b) x = prs S x := fun x => by
    unfold prs
    rw [e1]
    by_cases q : x < 6
    · rw [if_pos q, if_pos q]
    · rw [if_neg q, if_neg q, pk_un (by omega)]
  have eo : ∀ r : mRef, r ≠ .inl (i, 4) → hup h (.inl (i, 4)) l b r = h r := fun r hr => by funext k; exact hup_other hr k
  refine hC.gen ⟨eo _ (by simp), eo _ (by simp)⟩ (fun l' hl' => ?_) (eo _ (by simp)) (fun j hj => pk_un (by omega)) (pk_un (by omega)) (fun x k hx hk => ?_) (fun s' hs' => ?_)
  · unfold bk
    rw [e1]
    by_cases q : l' = l
    · subst q
      rw [hup_same, if_pos hl, pk_us]
    · rw [hup_idx q, hC.2.2.2.1 l' hl', pk_un (by omega)]
      rfl
  · rw [eo _ (by simp), hC.2.2.1 x k hx hk]
    unfold tb
    rw [e2, pk_un (by omega)]
  · rw [eo _ (by simp), hC.2.2.2.2.1 s' hs']
    unfold sn
    rw [pk_un (by omega), pk_un (by omega)]
theorem mn_csF (dd : Nat) : ∀ (k : Nat) (σ : Sg), mn (csF L dd k σ).1 = mn σ.1
  | 0, σ => rfl
  | k + 1, σ => by
    unfold csF
    rw [mn_addc _ _ (tb_lt _ _ _)]
    exact mn_csF dd k σ
theorem tb_addc (c : Nat) (v : Int32) (hc : c < 64) (σ : Sg) (x k : Nat) : tb (addc L c v σ).1 x k = tb σ.1 x k := by
  unfold addc
  split
  · rfl
  · unfold gt
    split
    · split
      · rfl
      · exact (lo_same (by omega)).2.2.1 x k
    · rfl
theorem k_takeSnapshot {l s : Nat} {p : mH → Prop} (hT : TR h L σ) (hl : l < mn σ.1) (hs : s < 8) (hp : ∀ h', OT h h' → TR h' L (snp L l s σ) → p h') : mU (Kd sL (d + 3)) 45 [.inr (.inr (.inr 2)), .inl (nI l), .inl (nI s)] h p := by
  have hm6 := hT.1.2.2.2.2.2.2.1
  refine ke_X2_takeSnapshot ?_
  refine EX.go (Kd_mono _ _) [false, false, false, false, true, false, false, false, false] 40 0 ?_
  dsimp only [wpc_s, wsl_t, wsl_f, gD_0, gD_s, ↓denB_n, pI_s, pG_s, pU_n, cb_X2_takeSnapshot_0, cb_X2_takeSnapshot_1, cb_X2_takeSnapshot_2, cb_X2_takeSnapshot_3, cb_X2_takeSnapshot_4, cb_X2_takeSnapshot_5, cb_X2_takeSnapshot_6, cb_X2_takeSnapshot_7, cb_X2_takeSnapshot_8, ↓ev_iload_n_2, ↓ev_if_lt, ↓ev_bipush_8, ↓ev_icmp_lt, ↓ev_ret, ↓ev_iconst_0, ↓ev_istore_n_3, ↓ev_iload_n_3, ↓ev_iconst_4, ↓ev_icmp_ge, ↓ev_aload_n_0, ↓ev_getf_2_0, ↓ev_iload_n_1, ↓ev_callv_3_0_1, ↓ev_callv_3_1_1, ↓ev_callv_3_2_1, ↓ev_callv_3_3_1, ↓ev_callv_3_4_1, ↓ev_callv_3_5_1, ↓ev_iconst_1, ↓ev_callv_3_0_0, ↓ev_callv_3_1_0, ↓ev_callv_3_2_0, ↓ev_callv_3_3_0, ↓ev_callv_3_4_0, ↓ev_iinc_3_1, ↓ev_goto, ↓ev_callv_1_0_1, ↓ev_callv_1_1_1, ↓ev_callv_1_2_1, ↓ev_callv_1_3_1, ↓ev_callv_1_4_1, ↓ev_if_eq, ↓ev_getf_0_4, ↓ev_iast_m1, ↓ev_iast_m2, ↓ev_iast_m3, ↓ev_iast_m4, ↓ev_iast_m5, ↓ev_iast_m6, ↓ev_iast_o3, ↓ev_getf_0_2, ↓ev_imul, ↓ev_bipush_6, ↓ev_iadd, Nat.reduceAdd]
  try simp (disch := omega) only [pk_mul, nI_add, n_lt0, n_le0, n_eq0, n_ge0, n_gt0, n_lt, n_le, n_eq, n_in, n_div, n_rem, n_rem2, n_m1, nI_clamp, bz_0, bz_1, tI_0, tI_bz, n4, n16, eq_self, Nat.reduceLT, Nat.reduceLeDiff, Nat.reduceEqDiff, Nat.reduceAdd, Nat.reduceMul, Nat.reduceDiv, Nat.reduceMod, Nat.le_refl, decide_eq_false_iff_not, Classical.not_not, true_and, and_true, false_and, and_false, not_true_eq_false, not_false_eq_true, forall_const, true_implies, false_implies, implies_true, ne_eq]
  refine ⟨fun _ => ?_, fun c => absurd hs c⟩
  unfold snp at hp
  suffices H : ∀ (f k : Nat) (h2 : mH), k + f = 4 → OT h h2 → TR h2 L (csF L l k σ) → EX (Kd sL (d + 2)) sL md_X2_takeSnapshot (pU p) 4 [some (.inr (.inr (.inr 2))), some (.inl (nI l)), some (.inl (nI s)), some (.inl (nI k))] [] h2 from H 4 0 h rfl OT.rf hT
  intro f
  induction f with
  | zero =>
    intro k h2 hk o t
    refine EX.go (Kd_mono _ _) [false, false, false, false, true, false, false, false, false] 40 4 ?_
    dsimp only [wpc_s, wsl_t, wsl_f, gD_0, gD_s, ↓denB_n, pI_s, pG_s, pU_n, cb_X2_takeSnapshot_0, cb_X2_takeSnapshot_1, cb_X2_takeSnapshot_2, cb_X2_takeSnapshot_3, cb_X2_takeSnapshot_4, cb_X2_takeSnapshot_5, cb_X2_takeSnapshot_6, cb_X2_takeSnapshot_7, cb_X2_takeSnapshot_8, ↓ev_iload_n_2, ↓ev_if_lt, ↓ev_bipush_8, ↓ev_icmp_lt, ↓ev_ret, ↓ev_iconst_0, ↓ev_istore_n_3, ↓ev_iload_n_3, ↓ev_iconst_4, ↓ev_icmp_ge, ↓ev_aload_n_0, ↓ev_getf_2_0, ↓ev_iload_n_1, ↓ev_callv_3_0_1, ↓ev_callv_3_1_1, ↓ev_callv_3_2_1, ↓ev_callv_3_3_1, ↓ev_callv_3_4_1, ↓ev_callv_3_5_1, ↓ev_iconst_1, ↓ev_callv_3_0_0, ↓ev_callv_3_1_0, ↓ev_callv_3_2_0, ↓ev_callv_3_3_0, ↓ev_callv_3_4_0, ↓ev_iinc_3_1, ↓ev_goto, ↓ev_callv_1_0_1, ↓ev_callv_1_1_1, ↓ev_callv_1_2_1, ↓ev_callv_1_3_1, ↓ev_callv_1_4_1, ↓ev_if_eq, ↓ev_getf_0_4, ↓ev_iast_m1, ↓ev_iast_m2, ↓ev_iast_m3, ↓ev_iast_m4, ↓ev_iast_m5, ↓ev_iast_m6, ↓ev_iast_o3, ↓ev_getf_0_2, ↓ev_imul, ↓ev_bipush_6, ↓ev_iadd, Nat.reduceAdd]
    try simp (disch := omega) only [pk_mul, nI_add, n_lt0, n_le0, n_eq0, n_ge0, n_gt0, n_lt, n_le, n_eq, n_in, n_div, n_rem, n_rem2, n_m1, nI_clamp, bz_0, bz_1, tI_0, tI_bz, n4, n16, eq_self, Nat.reduceLT, Nat.reduceLeDiff, Nat.reduceEqDiff, Nat.reduceAdd, Nat.reduceMul, Nat.reduceDiv, Nat.reduceMod, Nat.le_refl, decide_eq_false_iff_not, Classical.not_not, true_and, and_true, false_and, and_false, not_true_eq_false, not_false_eq_true, forall_const, true_implies, false_implies, implies_true, ne_eq]
    rw [show k = 4 by omega] at t
    refine ⟨fun _ => ?_, fun c2 => absurd (show 4 ≤ k by omega) c2⟩
    refine k_step t (fun h3 o3 t3 hn => ?_) (fun h3 o3 z0 z1 t3 => ?_)
    · rw [gt_no hn] at hp
      exact ⟨fun _ => hp h3 (o.tr o3) t3, fun c2 => absurd rfl c2⟩
    · rw [gt_yes z0 z1] at hp
      refine ⟨fun c2 => absurd c2 (by decide), fun _ => ?_⟩
      try simp (disch := omega) only [pk_mul, nI_add, n_lt0, n_le0, n_eq0, n_ge0, n_gt0, n_lt, n_le, n_eq, n_in, n_div, n_rem, n_rem2, n_m1, nI_clamp, bz_0, bz_1, tI_0, tI_bz, n4, n16, eq_self, Nat.reduceLT, Nat.reduceLeDiff, Nat.reduceEqDiff, Nat.reduceAdd, Nat.reduceMul, Nat.reduceDiv, Nat.reduceMod, Nat.le_refl, decide_eq_false_iff_not, Classical.not_not, true_and, and_true, false_and, and_false, not_true_eq_false, not_false_eq_true, forall_const, true_implies, false_implies, implies_true, ne_eq]
      refine ⟨hs, ?_⟩
      refine ev_copy rfl rfl (nI_pos' (by omega)) (nI_pos' (by omega)) (by decide) (by rw [nI_clamp (by omega), nI_clamp (by decide)]; omega) (by rw [nI_clamp (by omega), nI_clamp (by decide)]; omega) (by decide) ?_
      dsimp only [wpc_s, wsl_t, wsl_f, gD_0, gD_s, ↓denB_n, pI_s, pG_s, pU_n, cb_X2_takeSnapshot_0, cb_X2_takeSnapshot_1, cb_X2_takeSnapshot_2, cb_X2_takeSnapshot_3, cb_X2_takeSnapshot_4, cb_X2_takeSnapshot_5, cb_X2_takeSnapshot_6, cb_X2_takeSnapshot_7, cb_X2_takeSnapshot_8, ↓ev_iload_n_2, ↓ev_if_lt, ↓ev_bipush_8, ↓ev_icmp_lt, ↓ev_ret, ↓ev_iconst_0, ↓ev_istore_n_3, ↓ev_iload_n_3, ↓ev_iconst_4, ↓ev_icmp_ge, ↓ev_aload_n_0, ↓ev_getf_2_0, ↓ev_iload_n_1, ↓ev_callv_3_0_1, ↓ev_callv_3_1_1, ↓ev_callv_3_2_1, ↓ev_callv_3_3_1, ↓ev_callv_3_4_1, ↓ev_callv_3_5_1, ↓ev_iconst_1, ↓ev_callv_3_0_0, ↓ev_callv_3_1_0, ↓ev_callv_3_2_0, ↓ev_callv_3_3_0, ↓ev_callv_3_4_0, ↓ev_iinc_3_1, ↓ev_goto, ↓ev_callv_1_0_1, ↓ev_callv_1_1_1, ↓ev_callv_1_2_1, ↓ev_callv_1_3_1, ↓ev_callv_1_4_1, ↓ev_if_eq, ↓ev_getf_0_4, ↓ev_iast_m1, ↓ev_iast_m2, ↓ev_iast_m3, ↓ev_iast_m4, ↓ev_iast_m5, ↓ev_iast_m6, ↓ev_iast_o3, ↓ev_getf_0_2, ↓ev_imul, ↓ev_bipush_6, ↓ev_iadd, Nat.reduceAdd]
      rw [nI_clamp (by omega), nI_clamp (by omega), nI_clamp (by decide)]
      refine hp _ (o.tr (o3.tr ((OT.oi Oi.up).tr (OT.oi Oi.cp)))) ?_
      rw [show l * 4 = 4 * l by omega, show (6 + s) * 4 = 4 * (6 + s) by omega]
      exact t3.img (Oi.up.tr Oi.cp) (t3.1.rec (by dsimp only; rw [mn_csF]; exact hl) hs)
  | succ f ih =>
    intro k h2 hk o t
    refine EX.go (Kd_mono _ _) [false, false, false, false, true, false, false, false, false] 40 4 ?_
    dsimp only [wpc_s, wsl_t, wsl_f, gD_0, gD_s, ↓denB_n, pI_s, pG_s, pU_n, cb_X2_takeSnapshot_0, cb_X2_takeSnapshot_1, cb_X2_takeSnapshot_2, cb_X2_takeSnapshot_3, cb_X2_takeSnapshot_4, cb_X2_takeSnapshot_5, cb_X2_takeSnapshot_6, cb_X2_takeSnapshot_7, cb_X2_takeSnapshot_8, ↓ev_iload_n_2, ↓ev_if_lt, ↓ev_bipush_8, ↓ev_icmp_lt, ↓ev_ret, ↓ev_iconst_0, ↓ev_istore_n_3, ↓ev_iload_n_3, ↓ev_iconst_4, ↓ev_icmp_ge, ↓ev_aload_n_0, ↓ev_getf_2_0, ↓ev_iload_n_1, ↓ev_callv_3_0_1, ↓ev_callv_3_1_1, ↓ev_callv_3_2_1, ↓ev_callv_3_3_1, ↓ev_callv_3_4_1, ↓ev_callv_3_5_1, ↓ev_iconst_1, ↓ev_callv_3_0_0, ↓ev_callv_3_1_0, ↓ev_callv_3_2_0, ↓ev_callv_3_3_0, ↓ev_callv_3_4_0, ↓ev_iinc_3_1, ↓ev_goto, ↓ev_callv_1_0_1, ↓ev_callv_1_1_1, ↓ev_callv_1_2_1, ↓ev_callv_1_3_1, ↓ev_callv_1_4_1, ↓ev_if_eq, ↓ev_getf_0_4, ↓ev_iast_m1, ↓ev_iast_m2, ↓ev_iast_m3, ↓ev_iast_m4, ↓ev_iast_m5, ↓ev_iast_m6, ↓ev_iast_o3, ↓ev_getf_0_2, ↓ev_imul, ↓ev_bipush_6, ↓ev_iadd, Nat.reduceAdd]
    try simp (disch := omega) only [pk_mul, nI_add, n_lt0, n_le0, n_eq0, n_ge0, n_gt0, n_lt, n_le, n_eq, n_in, n_div, n_rem, n_rem2, n_m1, nI_clamp, bz_0, bz_1, tI_0, tI_bz, n4, n16, eq_self, Nat.reduceLT, Nat.reduceLeDiff, Nat.reduceEqDiff, Nat.reduceAdd, Nat.reduceMul, Nat.reduceDiv, Nat.reduceMod, Nat.le_refl, decide_eq_false_iff_not, Classical.not_not, true_and, and_true, false_and, and_false, not_true_eq_false, not_false_eq_true, forall_const, true_implies, false_implies, implies_true, ne_eq]
    refine ⟨fun c2 => absurd c2 (by omega), fun _ => ?_⟩
    refine k_tableAt t.1 (by omega) (by omega) ?_
    refine k_addToCount t (tb_lt _ _ _) (fun h3 o3 t3 => ?_)
    exact ih (k + 1) h3 (by omega) (o.tr o3) t3
end DEE
