/-! ===== class Thought: merge, move, fold, all places again; a deed as it is set ===== -/
def mvK (L l b : Nat) : Nat → Sg → Sg
  | 0, σ => σ
  | k + 1, σ => wpl L l (4 * b + k) (rdf (mvK L l b k σ).1 6 (nI l) (4 * b + k)) (mvK L l b k σ)
def smB (S : St) (x y : Int32) (b : Nat) : Prop := ∀ k, k < 4 → rdf S 6 x (4 * b + k) = rdf S 6 y (4 * b + k)
noncomputable def mvF (L l : Nat) (y : Int32) : Nat → Sg → Sg
  | 0, σ => σ
  | b + 1, σ => if dof (mvF L l y b σ).1 l b = 0 ∧ dec (smB (mvF L l y b σ).1 (nI l) y b) = false then mvK L l b 4 (mvF L l y b σ) else mvF L l y b σ
noncomputable def mov (L l : Nat) (y : Int32) (safe : Nat) (σ : Sg) : Sg := gt L (fun S => upd S (321 + l) y) (if safe = 1 then mvF L l y 16 σ else σ)
/-- the least of a set that is like one below it, or it itself -/
noncomputable def laf (S : St) (P : Nat → Bool) (dd : Nat) : Nat → Nat → Nat
  | 0, _ => dd
  | f + 1, e => if dec (P e = true ∧ alk S e dd) then e else laf S P dd f (e + 1)
noncomputable def lae (S : St) (P : Nat → Bool) (dd : Nat) : Nat := laf S P dd (dd - 1) 1
noncomputable def fo1 (L : Nat) (Q : Nat → Bool) (t k : Nat) (σ : Sg) : Sg := if lae σ.1 Q (dt σ.1 t k) < dt σ.1 t k then addc L (dt σ.1 t k) (-1) (gt L (fun S => upd S (64 + (4 * t + k)) (nI (lae σ.1 Q (dt σ.1 t k)))) (addc L (lae σ.1 Q (dt σ.1 t k)) (nI 1) σ)) else σ
noncomputable def foK (L : Nat) (Q : Nat → Bool) (t : Nat) : Nat → Sg → Sg
  | 0, σ => σ
  | k + 1, σ => fo1 L Q t k (foK L Q t k σ)
noncomputable def foF (L : Nat) (P Q : Nat → Bool) : Nat → Sg → Sg
  | 0, σ => σ
  | t + 1, σ => if P t then foK L Q t 4 (foF L P Q t σ) else foF L P Q t σ
noncomputable def fol (L : Nat) (σ : Sg) : Sg := foF L (fun t => dec (isT σ.1 0 14 t)) (fun c => dec (isD σ.1 (fun t => dec (isT σ.1 0 14 t)) c)) 64 σ
theorem laf_le (S : St) (P : Nat → Bool) (dd : Nat) : ∀ f e, (e + f ≤ dd ∨ f = 0) → laf S P dd f e ≤ dd
  | 0, _, _ => Nat.le_refl _
  | f + 1, e, h => by
    unfold laf
    split
    · omega
    · exact laf_le S P dd f (e + 1) (by omega)
theorem lae_le (S : St) (P : Nat → Bool) (dd : Nat) : lae S P dd ≤ dd := laf_le S P dd _ _ (by omega)
theorem laf_eq {S : St} {P : Nat → Bool} {dd e : Nat} (h : lsA S P dd e) : ∀ f k, 1 ≤ k → k ≤ e → e ≤ dd → k + f = dd → laf S P dd f k = e
  | 0, k, _, h2, h3, h4 => by
    show dd = e
    omega
  | f + 1, k, h1, h2, h3, h4 => by
    unfold laf
    split
    · rename_i hc
      rw [dec_t] at hc
      rcases Nat.lt_or_ge k e with q | q
      · exact absurd hc (h.2 k h1 q)
      · omega
    · rename_i hc
      rw [dec_t] at hc
      have hne : k ≠ e := by
        intro q
        rcases h.1 with z | ⟨-, -, z1, z2⟩
        · omega
        · exact hc (by rw [q]; exact ⟨z1, z2⟩)
      exact laf_eq h f (k + 1) (by omega) (by omega) h3 (by omega)
theorem lae_eq {S : St} {P : Nat → Bool} {dd e : Nat} (h : lsA S P dd e) : lae S P dd = e := by
  unfold lae
  rcases h.1 with q | ⟨q1, q2, -⟩
  · rcases Nat.eq_zero_or_pos dd with z | z
    · subst z
      exact q.symm
    · exact laf_eq h (dd - 1) 1 (Nat.le_refl 1) (by omega) (by omega) (by omega)
  · exact laf_eq h (dd - 1) 1 (Nat.le_refl 1) (by omega) (by omega) (by omega)
section DE3
variable {sL d L : Nat} {h : mH} {σ : Sg}
theorem mn_wpl {l p : Nat} {v : Int32} (hl : l < 6) (hp : p < 64) (σ : Sg) : mn (wpl L l p v σ).1 = mn σ.1 := by
  unfold wpl
  have h0 : mn (own L l (p / 4 / 4) σ).2.1 = mn σ.1 := mn_own (by omega) σ
  have htl := own_lt L l (p / 4 / 4) σ
  generalize own L l (p / 4 / 4) σ = q at h0 htl ⊢
  obtain ⟨t, σ1⟩ := q
  dsimp only at h0 htl ⊢
  have hn := ncl_lt σ1
  have hd := dt_lt σ1.1 t (p / 4 % 4)
  unfold wp1
  split
  · unfold wp2
    rw [mn_gt (fun S => (lo_same (by omega)).1), mn_addc _ _ hd, mn_gt (fun S => (lo_same (by omega)).1), mn_gt (fun S => mn_filF hn S 4 (by omega)), mn_gt (fun S => (lo_same (by omega)).1), ncl_S, h0]
  · rw [mn_gt (fun S => (lo_same (by omega)).1), h0]
theorem mn_mgF {l bb : Nat} (hb : bb < 6) : ∀ p, p ≤ 64 → ∀ σ : Sg, mn (mgF L l bb p σ).1 = mn σ.1
  | 0, _, σ => rfl
  | p + 1, hp, σ => by
    unfold mgF
    split
    · exact mn_mgF hb p (by omega) σ
    · rw [mn_wpl hb (by omega)]
      exact mn_mgF hb p (by omega) σ
theorem k_mergeDown {l bb : Nat} {p : mH → Prop} (hT : TR h L σ) (hl : l < mn σ.1) (hbk : bk σ.1 l = nI bb) (hbb : bb < mn σ.1) (hp : ∀ h', OU h h' → TR h' L (mrg L l bb σ) → p h') : mU (Kd sL (d + 5)) 49 [.inr (.inr (.inr 2)), .inl (nI l)] h p := by
  have hm6 := hT.1.2.2.2.2.2.2.1
  refine ke_X2_mergeDown ?_
  refine EX.go (Kd_mono _ _) [false, false, true, true, false, false, false, false, false, false] 40 0 ?_
  dsimp only [wpc_s, wsl_t, wsl_f, gD_0, gD_s, ↓denB_n, pI_s, pG_s, pU_n, cb_X2_mergeDown_0, cb_X2_mergeDown_1, cb_X2_mergeDown_2, cb_X2_mergeDown_3, cb_X2_mergeDown_4, cb_X2_mergeDown_5, cb_X2_mergeDown_6, cb_X2_mergeDown_7, cb_X2_mergeDown_8, cb_X2_mergeDown_9, ↓ev_aload_n_0, ↓ev_getf_2_0, ↓ev_getf_0_3, ↓ev_iload_n_1, ↓ev_iald_m1, ↓ev_iald_m2, ↓ev_iald_m3, ↓ev_iald_m4, ↓ev_iald_m5, ↓ev_iald_m6, ↓ev_iald_o3, ↓ev_istore_n_2, ↓ev_iload_n_2, ↓ev_callv_2_0_1, ↓ev_callv_2_1_1, ↓ev_callv_2_2_1, ↓ev_callv_2_3_1, ↓ev_callv_2_4_1, ↓ev_if_ne, ↓ev_ret, ↓ev_iconst_0, ↓ev_istore_n_3, ↓ev_iload_n_3, ↓ev_bipush_64, ↓ev_icmp_ge, ↓ev_iconst_4, ↓ev_idiv, ↓ev_callv_3_0_1, ↓ev_callv_3_1_1, ↓ev_callv_3_2_1, ↓ev_callv_3_3_1, ↓ev_callv_3_4_1, ↓ev_callv_3_5_1, ↓ev_if_eq, ↓ev_callv_4_0_0, ↓ev_callv_4_1_0, ↓ev_callv_4_2_0, ↓ev_callv_4_3_0, ↓ev_callv_4_4_0, ↓ev_iinc_3_1, ↓ev_goto, ↓ev_callv_2_0_0, ↓ev_callv_2_1_0, ↓ev_callv_2_2_0, ↓ev_callv_2_3_0, ↓ev_callv_2_4_0, ↓ev_callv_1_0_1, ↓ev_callv_1_1_1, ↓ev_callv_1_2_1, ↓ev_callv_1_3_1, ↓ev_callv_1_4_1, ↓ev_getf_0_2, ↓ev_imul, ↓ev_iconst_1, ↓ev_iadd, ↓ev_calls_4_0_0, ↓ev_calls_4_1_0, ↓ev_calls_4_2_0, ↓ev_calls_4_3_0, ↓ev_calls_4_4_0, ↓ev_callv_1_0_0, ↓ev_callv_1_1_0, ↓ev_callv_1_2_0, ↓ev_callv_1_3_0, ↓ev_callv_1_4_0, Nat.reduceAdd]
  have e4 : h (.inl (2, 4)) l = nI bb := by rw [hT.1.2.2.2.1 l (by omega), hbk]
  try simp (disch := omega) only [pk_mul, nI_add, n_lt0, n_le0, n_eq0, n_ge0, n_gt0, n_lt, n_le, n_eq, n_in, n_div, n_rem, n_rem2, n_m1, nI_clamp, bz_0, bz_1, tI_0, tI_bz, n4, n16, eq_self, Nat.reduceLT, Nat.reduceLeDiff, Nat.reduceEqDiff, Nat.reduceAdd, Nat.reduceMul, Nat.reduceDiv, Nat.reduceMod, Nat.le_refl, decide_eq_false_iff_not, Classical.not_not, true_and, and_true, false_and, and_false, not_true_eq_false, not_false_eq_true, forall_const, true_implies, false_implies, implies_true, ne_eq, e4]
  refine ⟨by omega, k_hasLayer hT.1 ?_⟩
  try simp (disch := omega) only [pk_mul, nI_add, n_lt0, n_le0, n_eq0, n_ge0, n_gt0, n_lt, n_le, n_eq, n_in, n_div, n_rem, n_rem2, n_m1, nI_clamp, bz_0, bz_1, tI_0, tI_bz, n4, n16, eq_self, Nat.reduceLT, Nat.reduceLeDiff, Nat.reduceEqDiff, Nat.reduceAdd, Nat.reduceMul, Nat.reduceDiv, Nat.reduceMod, Nat.le_refl, decide_eq_false_iff_not, Classical.not_not, true_and, and_true, false_and, and_false, not_true_eq_false, not_false_eq_true, forall_const, true_implies, false_implies, implies_true, ne_eq]
  refine ⟨fun _ => ?_, fun c => absurd hbb c⟩
  refine EX.go (Kd_mono _ _) [false, false, false, true, false, false, false, false, false, false] 40 2 ?_
  dsimp only [wpc_s, wsl_t, wsl_f, gD_0, gD_s, ↓denB_n, pI_s, pG_s, pU_n, cb_X2_mergeDown_0, cb_X2_mergeDown_1, cb_X2_mergeDown_2, cb_X2_mergeDown_3, cb_X2_mergeDown_4, cb_X2_mergeDown_5, cb_X2_mergeDown_6, cb_X2_mergeDown_7, cb_X2_mergeDown_8, cb_X2_mergeDown_9, ↓ev_aload_n_0, ↓ev_getf_2_0, ↓ev_getf_0_3, ↓ev_iload_n_1, ↓ev_iald_m1, ↓ev_iald_m2, ↓ev_iald_m3, ↓ev_iald_m4, ↓ev_iald_m5, ↓ev_iald_m6, ↓ev_iald_o3, ↓ev_istore_n_2, ↓ev_iload_n_2, ↓ev_callv_2_0_1, ↓ev_callv_2_1_1, ↓ev_callv_2_2_1, ↓ev_callv_2_3_1, ↓ev_callv_2_4_1, ↓ev_if_ne, ↓ev_ret, ↓ev_iconst_0, ↓ev_istore_n_3, ↓ev_iload_n_3, ↓ev_bipush_64, ↓ev_icmp_ge, ↓ev_iconst_4, ↓ev_idiv, ↓ev_callv_3_0_1, ↓ev_callv_3_1_1, ↓ev_callv_3_2_1, ↓ev_callv_3_3_1, ↓ev_callv_3_4_1, ↓ev_callv_3_5_1, ↓ev_if_eq, ↓ev_callv_4_0_0, ↓ev_callv_4_1_0, ↓ev_callv_4_2_0, ↓ev_callv_4_3_0, ↓ev_callv_4_4_0, ↓ev_iinc_3_1, ↓ev_goto, ↓ev_callv_2_0_0, ↓ev_callv_2_1_0, ↓ev_callv_2_2_0, ↓ev_callv_2_3_0, ↓ev_callv_2_4_0, ↓ev_callv_1_0_1, ↓ev_callv_1_1_1, ↓ev_callv_1_2_1, ↓ev_callv_1_3_1, ↓ev_callv_1_4_1, ↓ev_getf_0_2, ↓ev_imul, ↓ev_iconst_1, ↓ev_iadd, ↓ev_calls_4_0_0, ↓ev_calls_4_1_0, ↓ev_calls_4_2_0, ↓ev_calls_4_3_0, ↓ev_calls_4_4_0, ↓ev_callv_1_0_0, ↓ev_callv_1_1_0, ↓ev_callv_1_2_0, ↓ev_callv_1_3_0, ↓ev_callv_1_4_0, Nat.reduceAdd]
  unfold mrg at hp
  suffices H : ∀ (f k : Nat) (h2 : mH), k + f = 64 → OT h h2 → TR h2 L (mgF L l bb k σ) → EX (Kd sL (d + 4)) sL md_X2_mergeDown (pU p) 3 [some (.inr (.inr (.inr 2))), some (.inl (nI l)), some (.inl (nI bb)), some (.inl (nI k))] [] h2 from H 64 0 h rfl OT.rf hT
  intro f
  induction f with
  | zero =>
    intro k h2 hk o t
    refine EX.go (Kd_mono _ _) [false, false, false, true, false, false, false, false, false, true] 40 3 ?_
    dsimp only [wpc_s, wsl_t, wsl_f, gD_0, gD_s, ↓denB_n, pI_s, pG_s, pU_n, cb_X2_mergeDown_0, cb_X2_mergeDown_1, cb_X2_mergeDown_2, cb_X2_mergeDown_3, cb_X2_mergeDown_4, cb_X2_mergeDown_5, cb_X2_mergeDown_6, cb_X2_mergeDown_7, cb_X2_mergeDown_8, cb_X2_mergeDown_9, ↓ev_aload_n_0, ↓ev_getf_2_0, ↓ev_getf_0_3, ↓ev_iload_n_1, ↓ev_iald_m1, ↓ev_iald_m2, ↓ev_iald_m3, ↓ev_iald_m4, ↓ev_iald_m5, ↓ev_iald_m6, ↓ev_iald_o3, ↓ev_istore_n_2, ↓ev_iload_n_2, ↓ev_callv_2_0_1, ↓ev_callv_2_1_1, ↓ev_callv_2_2_1, ↓ev_callv_2_3_1, ↓ev_callv_2_4_1, ↓ev_if_ne, ↓ev_ret, ↓ev_iconst_0, ↓ev_istore_n_3, ↓ev_iload_n_3, ↓ev_bipush_64, ↓ev_icmp_ge, ↓ev_iconst_4, ↓ev_idiv, ↓ev_callv_3_0_1, ↓ev_callv_3_1_1, ↓ev_callv_3_2_1, ↓ev_callv_3_3_1, ↓ev_callv_3_4_1, ↓ev_callv_3_5_1, ↓ev_if_eq, ↓ev_callv_4_0_0, ↓ev_callv_4_1_0, ↓ev_callv_4_2_0, ↓ev_callv_4_3_0, ↓ev_callv_4_4_0, ↓ev_iinc_3_1, ↓ev_goto, ↓ev_callv_2_0_0, ↓ev_callv_2_1_0, ↓ev_callv_2_2_0, ↓ev_callv_2_3_0, ↓ev_callv_2_4_0, ↓ev_callv_1_0_1, ↓ev_callv_1_1_1, ↓ev_callv_1_2_1, ↓ev_callv_1_3_1, ↓ev_callv_1_4_1, ↓ev_getf_0_2, ↓ev_imul, ↓ev_iconst_1, ↓ev_iadd, ↓ev_calls_4_0_0, ↓ev_calls_4_1_0, ↓ev_calls_4_2_0, ↓ev_calls_4_3_0, ↓ev_calls_4_4_0, ↓ev_callv_1_0_0, ↓ev_callv_1_1_0, ↓ev_callv_1_2_0, ↓ev_callv_1_3_0, ↓ev_callv_1_4_0, Nat.reduceAdd]
    try simp (disch := omega) only [pk_mul, nI_add, n_lt0, n_le0, n_eq0, n_ge0, n_gt0, n_lt, n_le, n_eq, n_in, n_div, n_rem, n_rem2, n_m1, nI_clamp, bz_0, bz_1, tI_0, tI_bz, n4, n16, eq_self, Nat.reduceLT, Nat.reduceLeDiff, Nat.reduceEqDiff, Nat.reduceAdd, Nat.reduceMul, Nat.reduceDiv, Nat.reduceMod, Nat.le_refl, decide_eq_false_iff_not, Classical.not_not, true_and, and_true, false_and, and_false, not_true_eq_false, not_false_eq_true, forall_const, true_implies, false_implies, implies_true, ne_eq]
    have hk4 : k = 64 := by omega
    subst hk4
    refine ⟨fun _ => ?_, fun c2 => absurd (show 64 ≤ 64 by omega) c2⟩
    refine k_noteTables t (by omega) (fun h3 o3 t3 hh => ?_)
    have J9 : ∀ (h2 : mH) (σ2 : Sg), OT h3 h2 → TR h2 L σ2 → (∀ h', OU h h' → TR h' L (rlF L (fun i => tb (mgF L l bb 64 σ).1 l i) 4 σ2) → p h') → EX (Kd sL (d + 4)) sL md_X2_mergeDown (pU p) 9 [some (.inr (.inr (.inr 2))), some (.inl (nI l)), some (.inl (nI bb)), some (.inl (nI 64))] [] h2 := by
      intro h2 σ2 o2 t2 hp
      refine EX.go (Kd_mono _ _) [false, false, false, true, false, false, false, false, false, false] 40 9 ?_
      dsimp only [wpc_s, wsl_t, wsl_f, gD_0, gD_s, ↓denB_n, pI_s, pG_s, pU_n, cb_X2_mergeDown_0, cb_X2_mergeDown_1, cb_X2_mergeDown_2, cb_X2_mergeDown_3, cb_X2_mergeDown_4, cb_X2_mergeDown_5, cb_X2_mergeDown_6, cb_X2_mergeDown_7, cb_X2_mergeDown_8, cb_X2_mergeDown_9, ↓ev_aload_n_0, ↓ev_getf_2_0, ↓ev_getf_0_3, ↓ev_iload_n_1, ↓ev_iald_m1, ↓ev_iald_m2, ↓ev_iald_m3, ↓ev_iald_m4, ↓ev_iald_m5, ↓ev_iald_m6, ↓ev_iald_o3, ↓ev_istore_n_2, ↓ev_iload_n_2, ↓ev_callv_2_0_1, ↓ev_callv_2_1_1, ↓ev_callv_2_2_1, ↓ev_callv_2_3_1, ↓ev_callv_2_4_1, ↓ev_if_ne, ↓ev_ret, ↓ev_iconst_0, ↓ev_istore_n_3, ↓ev_iload_n_3, ↓ev_bipush_64, ↓ev_icmp_ge, ↓ev_iconst_4, ↓ev_idiv, ↓ev_callv_3_0_1, ↓ev_callv_3_1_1, ↓ev_callv_3_2_1, ↓ev_callv_3_3_1, ↓ev_callv_3_4_1, ↓ev_callv_3_5_1, ↓ev_if_eq, ↓ev_callv_4_0_0, ↓ev_callv_4_1_0, ↓ev_callv_4_2_0, ↓ev_callv_4_3_0, ↓ev_callv_4_4_0, ↓ev_iinc_3_1, ↓ev_goto, ↓ev_callv_2_0_0, ↓ev_callv_2_1_0, ↓ev_callv_2_2_0, ↓ev_callv_2_3_0, ↓ev_callv_2_4_0, ↓ev_callv_1_0_1, ↓ev_callv_1_1_1, ↓ev_callv_1_2_1, ↓ev_callv_1_3_1, ↓ev_callv_1_4_1, ↓ev_getf_0_2, ↓ev_imul, ↓ev_iconst_1, ↓ev_iadd, ↓ev_calls_4_0_0, ↓ev_calls_4_1_0, ↓ev_calls_4_2_0, ↓ev_calls_4_3_0, ↓ev_calls_4_4_0, ↓ev_callv_1_0_0, ↓ev_callv_1_1_0, ↓ev_callv_1_2_0, ↓ev_callv_1_3_0, ↓ev_callv_1_4_0, Nat.reduceAdd]
      refine k_releaseNoted t2 (T := fun i => tb (mgF L l bb 64 σ).1 l i) (fun i hi => by rw [o2.had]; exact hh i hi) (fun i => tb_lt _ _ _) (fun h3 o4 t3 => ?_)
      exact hp h3 (o.ou.tr (o3.tr (o2.ou.tr o4.ou))) t3
    refine k_step t3 (fun h4 o4 t4 hn => ?_) (fun h4 o4 z0 z1 t4 => ?_)
    · rw [gt_no hn] at hp
      exact ⟨fun _ => J9 h4 _ o4 t4 hp, fun c2 => absurd rfl c2⟩
    · rw [gt_yes z0 z1] at hp
      refine ⟨fun c2 => absurd c2 (by decide), fun _ => ?_⟩
      try simp (disch := omega) only [pk_mul, nI_add, n_lt0, n_le0, n_eq0, n_ge0, n_gt0, n_lt, n_le, n_eq, n_in, n_div, n_rem, n_rem2, n_m1, nI_clamp, bz_0, bz_1, tI_0, tI_bz, n4, n16, eq_self, Nat.reduceLT, Nat.reduceLeDiff, Nat.reduceEqDiff, Nat.reduceAdd, Nat.reduceMul, Nat.reduceDiv, Nat.reduceMod, Nat.le_refl, decide_eq_false_iff_not, Classical.not_not, true_and, and_true, false_and, and_false, not_true_eq_false, not_false_eq_true, forall_const, true_implies, false_implies, implies_true, ne_eq]
      refine k_fill4 (r := .inl (2, 3)) (n := 56) rfl (by decide) (by omega) (by omega) (fun g hg => ?_)
      have hml : l < mn (mgF L l bb 64 σ).1 := by rw [mn_mgF (by omega) 64 (by omega)]; exact hl
      refine J9 _ _ (o4.tr (OT.oi Oi.pt)) (t4.img Oi.pt (CR.dirs t4.1 (a := l) hml (fun r hr => hpt_ne hr) (fun j hj => ?_) (fun j hj hn => ?_) (fun k hk => ?_))) hp
      · show (if _ then _ else _) = _
        rw [if_neg hj]
      · rw [hpt_self, hg j, if_neg (by omega)]
      · rw [hpt_self, hg, if_pos (by omega)]
        have e9 : wdr0 (mgF L l bb 64 σ).1 l (327 + 4 * l + k) = nI 0 := by
          show (if _ then _ else _) = _
          rw [if_pos (by omega)]
        rw [e9]
        rfl
  | succ f ih =>
    intro k h2 hk o t
    refine EX.go (Kd_mono _ _) [false, false, false, true, false, false, true, false, false, false] 40 3 ?_
    dsimp only [wpc_s, wsl_t, wsl_f, gD_0, gD_s, ↓denB_n, pI_s, pG_s, pU_n, cb_X2_mergeDown_0, cb_X2_mergeDown_1, cb_X2_mergeDown_2, cb_X2_mergeDown_3, cb_X2_mergeDown_4, cb_X2_mergeDown_5, cb_X2_mergeDown_6, cb_X2_mergeDown_7, cb_X2_mergeDown_8, cb_X2_mergeDown_9, ↓ev_aload_n_0, ↓ev_getf_2_0, ↓ev_getf_0_3, ↓ev_iload_n_1, ↓ev_iald_m1, ↓ev_iald_m2, ↓ev_iald_m3, ↓ev_iald_m4, ↓ev_iald_m5, ↓ev_iald_m6, ↓ev_iald_o3, ↓ev_istore_n_2, ↓ev_iload_n_2, ↓ev_callv_2_0_1, ↓ev_callv_2_1_1, ↓ev_callv_2_2_1, ↓ev_callv_2_3_1, ↓ev_callv_2_4_1, ↓ev_if_ne, ↓ev_ret, ↓ev_iconst_0, ↓ev_istore_n_3, ↓ev_iload_n_3, ↓ev_bipush_64, ↓ev_icmp_ge, ↓ev_iconst_4, ↓ev_idiv, ↓ev_callv_3_0_1, ↓ev_callv_3_1_1, ↓ev_callv_3_2_1, ↓ev_callv_3_3_1, ↓ev_callv_3_4_1, ↓ev_callv_3_5_1, ↓ev_if_eq, ↓ev_callv_4_0_0, ↓ev_callv_4_1_0, ↓ev_callv_4_2_0, ↓ev_callv_4_3_0, ↓ev_callv_4_4_0, ↓ev_iinc_3_1, ↓ev_goto, ↓ev_callv_2_0_0, ↓ev_callv_2_1_0, ↓ev_callv_2_2_0, ↓ev_callv_2_3_0, ↓ev_callv_2_4_0, ↓ev_callv_1_0_1, ↓ev_callv_1_1_1, ↓ev_callv_1_2_1, ↓ev_callv_1_3_1, ↓ev_callv_1_4_1, ↓ev_getf_0_2, ↓ev_imul, ↓ev_iconst_1, ↓ev_iadd, ↓ev_calls_4_0_0, ↓ev_calls_4_1_0, ↓ev_calls_4_2_0, ↓ev_calls_4_3_0, ↓ev_calls_4_4_0, ↓ev_callv_1_0_0, ↓ev_callv_1_1_0, ↓ev_callv_1_2_0, ↓ev_callv_1_3_0, ↓ev_callv_1_4_0, Nat.reduceAdd]
    have J6 : ∀ (h2 : mH), OT h h2 → TR h2 L (mgF L l bb (k + 1) σ) → EX (Kd sL (d + 4)) sL md_X2_mergeDown (pU p) 6 [some (.inr (.inr (.inr 2))), some (.inl (nI l)), some (.inl (nI bb)), some (.inl (nI k))] [] h2 := by
      intro h2 o2 t2
      refine EX.go (Kd_mono _ _) [false, false, false, true, false, false, false, false, false, false] 40 6 ?_
      dsimp only [wpc_s, wsl_t, wsl_f, gD_0, gD_s, ↓denB_n, pI_s, pG_s, pU_n, cb_X2_mergeDown_0, cb_X2_mergeDown_1, cb_X2_mergeDown_2, cb_X2_mergeDown_3, cb_X2_mergeDown_4, cb_X2_mergeDown_5, cb_X2_mergeDown_6, cb_X2_mergeDown_7, cb_X2_mergeDown_8, cb_X2_mergeDown_9, ↓ev_aload_n_0, ↓ev_getf_2_0, ↓ev_getf_0_3, ↓ev_iload_n_1, ↓ev_iald_m1, ↓ev_iald_m2, ↓ev_iald_m3, ↓ev_iald_m4, ↓ev_iald_m5, ↓ev_iald_m6, ↓ev_iald_o3, ↓ev_istore_n_2, ↓ev_iload_n_2, ↓ev_callv_2_0_1, ↓ev_callv_2_1_1, ↓ev_callv_2_2_1, ↓ev_callv_2_3_1, ↓ev_callv_2_4_1, ↓ev_if_ne, ↓ev_ret, ↓ev_iconst_0, ↓ev_istore_n_3, ↓ev_iload_n_3, ↓ev_bipush_64, ↓ev_icmp_ge, ↓ev_iconst_4, ↓ev_idiv, ↓ev_callv_3_0_1, ↓ev_callv_3_1_1, ↓ev_callv_3_2_1, ↓ev_callv_3_3_1, ↓ev_callv_3_4_1, ↓ev_callv_3_5_1, ↓ev_if_eq, ↓ev_callv_4_0_0, ↓ev_callv_4_1_0, ↓ev_callv_4_2_0, ↓ev_callv_4_3_0, ↓ev_callv_4_4_0, ↓ev_iinc_3_1, ↓ev_goto, ↓ev_callv_2_0_0, ↓ev_callv_2_1_0, ↓ev_callv_2_2_0, ↓ev_callv_2_3_0, ↓ev_callv_2_4_0, ↓ev_callv_1_0_1, ↓ev_callv_1_1_1, ↓ev_callv_1_2_1, ↓ev_callv_1_3_1, ↓ev_callv_1_4_1, ↓ev_getf_0_2, ↓ev_imul, ↓ev_iconst_1, ↓ev_iadd, ↓ev_calls_4_0_0, ↓ev_calls_4_1_0, ↓ev_calls_4_2_0, ↓ev_calls_4_3_0, ↓ev_calls_4_4_0, ↓ev_callv_1_0_0, ↓ev_callv_1_1_0, ↓ev_callv_1_2_0, ↓ev_callv_1_3_0, ↓ev_callv_1_4_0, Nat.reduceAdd]
      try simp (disch := omega) only [pk_mul, nI_add, n_lt0, n_le0, n_eq0, n_ge0, n_gt0, n_lt, n_le, n_eq, n_in, n_div, n_rem, n_rem2, n_m1, nI_clamp, bz_0, bz_1, tI_0, tI_bz, n4, n16, eq_self, Nat.reduceLT, Nat.reduceLeDiff, Nat.reduceEqDiff, Nat.reduceAdd, Nat.reduceMul, Nat.reduceDiv, Nat.reduceMod, Nat.le_refl, decide_eq_false_iff_not, Classical.not_not, true_and, and_true, false_and, and_false, not_true_eq_false, not_false_eq_true, forall_const, true_implies, false_implies, implies_true, ne_eq]
      exact ih (k + 1) h2 (by omega) o2 t2
    rw [mgF] at J6
    try simp (disch := omega) only [pk_mul, nI_add, n_lt0, n_le0, n_eq0, n_ge0, n_gt0, n_lt, n_le, n_eq, n_in, n_div, n_rem, n_rem2, n_m1, nI_clamp, bz_0, bz_1, tI_0, tI_bz, n4, n16, eq_self, Nat.reduceLT, Nat.reduceLeDiff, Nat.reduceEqDiff, Nat.reduceAdd, Nat.reduceMul, Nat.reduceDiv, Nat.reduceMod, Nat.le_refl, decide_eq_false_iff_not, Classical.not_not, true_and, and_true, false_and, and_false, not_true_eq_false, not_false_eq_true, forall_const, true_implies, false_implies, implies_true, ne_eq]
    refine ⟨fun c2 => absurd c2 (by omega), fun _ => ?_⟩
    refine k_dataOf t.1 (by omega) (by omega) ?_
    have hdl := dof_lt (mgF L l bb k σ).1 l (k / 4)
    try simp (disch := omega) only [pk_mul, nI_add, n_lt0, n_le0, n_eq0, n_ge0, n_gt0, n_lt, n_le, n_eq, n_in, n_div, n_rem, n_rem2, n_m1, nI_clamp, bz_0, bz_1, tI_0, tI_bz, n4, n16, eq_self, Nat.reduceLT, Nat.reduceLeDiff, Nat.reduceEqDiff, Nat.reduceAdd, Nat.reduceMul, Nat.reduceDiv, Nat.reduceMod, Nat.le_refl, decide_eq_false_iff_not, Classical.not_not, true_and, and_true, false_and, and_false, not_true_eq_false, not_false_eq_true, forall_const, true_implies, false_implies, implies_true, ne_eq]
    refine ⟨fun c => ?_, fun c => ?_⟩
    · rw [if_pos c] at J6
      exact J6 h2 o t
    · rw [if_neg c] at J6
      refine k_at t.1 (by omega) ?_
      refine k_writePlace t (by rw [mn_mgF (by omega) k (by omega)]; exact hbb) (by omega) (fun h3 o3 t3 => ?_)
      exact J6 h3 (o.tr o3) t3
theorem mn_mvK {l b : Nat} (hl : l < 6) (hb : b < 16) : ∀ k, k ≤ 4 → ∀ σ : Sg, mn (mvK L l b k σ).1 = mn σ.1
  | 0, _, σ => rfl
  | k + 1, hk, σ => by
    unfold mvK
    rw [mn_wpl hl (by omega)]
    exact mn_mvK hl hb k (by omega) σ
theorem mn_mvF {l : Nat} {y : Int32} (hl : l < 6) : ∀ b, b ≤ 16 → ∀ σ : Sg, mn (mvF L l y b σ).1 = mn σ.1
  | 0, _, σ => rfl
  | b + 1, hb, σ => by
    unfold mvF
    split
    · rw [mn_mvK hl (by omega) 4 (by omega)]
      exact mn_mvF hl b (by omega) σ
    · exact mn_mvF hl b (by omega) σ
theorem k_moveOnto {l safe : Nat} {y : Int32} {p : mH → Prop} (hT : TR h L σ) (hl : l < mn σ.1) (hsf : safe ≤ 1) (hp : ∀ h', OT h h' → TR h' L (mov L l y safe σ) → p h') : mU (Kd sL (d + 5)) 50 [.inr (.inr (.inr 2)), .inl (nI l), .inl y, .inl (nI safe)] h p := by
  have hm6 := hT.1.2.2.2.2.2.2.1
  refine ke_X2_moveOnto ?_
  refine EX.go (Kd_mono _ _) [false, true, false, false, false, false, true, false, false, false, false, false] 40 0 ?_
  dsimp only [wpc_s, wsl_t, wsl_f, gD_0, gD_s, ↓denB_n, pI_s, pG_s, pU_n, cb_X2_moveOnto_0, cb_X2_moveOnto_1, cb_X2_moveOnto_2, cb_X2_moveOnto_3, cb_X2_moveOnto_4, cb_X2_moveOnto_5, cb_X2_moveOnto_6, cb_X2_moveOnto_7, cb_X2_moveOnto_8, cb_X2_moveOnto_9, cb_X2_moveOnto_10, cb_X2_moveOnto_11, ↓ev_iconst_0, ↓ev_istore_4, ↓ev_iload_4, ↓ev_bipush_16, ↓ev_icmp_ge, ↓ev_iload_n_3, ↓ev_iconst_1, ↓ev_icmp_ne, ↓ev_aload_n_0, ↓ev_getf_2_0, ↓ev_iload_n_1, ↓ev_callv_3_0_1, ↓ev_callv_3_1_1, ↓ev_callv_3_2_1, ↓ev_callv_3_3_1, ↓ev_callv_3_4_1, ↓ev_callv_3_5_1, ↓ev_if_ne, ↓ev_iload_n_2, ↓ev_callv_4_0_1, ↓ev_callv_4_1_1, ↓ev_callv_4_2_1, ↓ev_callv_4_3_1, ↓ev_callv_4_4_1, ↓ev_istore_5, ↓ev_iload_5, ↓ev_iconst_4, ↓ev_imul, ↓ev_iadd, ↓ev_istore_6, ↓ev_iload_6, ↓ev_callv_4_0_0, ↓ev_callv_4_1_0, ↓ev_callv_4_2_0, ↓ev_callv_4_3_0, ↓ev_callv_4_4_0, ↓ev_iinc_5_1, ↓ev_goto, ↓ev_iinc_4_1, ↓ev_callv_1_0_1, ↓ev_callv_1_1_1, ↓ev_callv_1_2_1, ↓ev_callv_1_3_1, ↓ev_callv_1_4_1, ↓ev_if_eq, ↓ev_getf_0_3, ↓ev_iast_m1, ↓ev_iast_m2, ↓ev_iast_m3, ↓ev_iast_m4, ↓ev_iast_m5, ↓ev_iast_m6, ↓ev_iast_o3, ↓ev_ret, Nat.reduceAdd]
  unfold mov at hp
  have J9 : ∀ (h2 : mH) (σ2 : Sg) (o4 o5 o6 : Option mV), OT h h2 → TR h2 L σ2 → mn σ2.1 = mn σ.1 → (∀ h', OT h h' → TR h' L (gt L (fun S => upd S (321 + l) y) σ2) → p h') → EX (Kd sL (d + 4)) sL md_X2_moveOnto (pU p) 9 [some (.inr (.inr (.inr 2))), some (.inl (nI l)), some (.inl y), some (.inl (nI safe)), o4, o5, o6] [] h2 := by
    intro h2 σ2 o4 o5 o6 o2 t2 hm hp
    refine EX.go (Kd_mono _ _) [false, true, false, false, false, false, true, false, false, false, false, false] 40 9 ?_
    dsimp only [wpc_s, wsl_t, wsl_f, gD_0, gD_s, ↓denB_n, pI_s, pG_s, pU_n, cb_X2_moveOnto_0, cb_X2_moveOnto_1, cb_X2_moveOnto_2, cb_X2_moveOnto_3, cb_X2_moveOnto_4, cb_X2_moveOnto_5, cb_X2_moveOnto_6, cb_X2_moveOnto_7, cb_X2_moveOnto_8, cb_X2_moveOnto_9, cb_X2_moveOnto_10, cb_X2_moveOnto_11, ↓ev_iconst_0, ↓ev_istore_4, ↓ev_iload_4, ↓ev_bipush_16, ↓ev_icmp_ge, ↓ev_iload_n_3, ↓ev_iconst_1, ↓ev_icmp_ne, ↓ev_aload_n_0, ↓ev_getf_2_0, ↓ev_iload_n_1, ↓ev_callv_3_0_1, ↓ev_callv_3_1_1, ↓ev_callv_3_2_1, ↓ev_callv_3_3_1, ↓ev_callv_3_4_1, ↓ev_callv_3_5_1, ↓ev_if_ne, ↓ev_iload_n_2, ↓ev_callv_4_0_1, ↓ev_callv_4_1_1, ↓ev_callv_4_2_1, ↓ev_callv_4_3_1, ↓ev_callv_4_4_1, ↓ev_istore_5, ↓ev_iload_5, ↓ev_iconst_4, ↓ev_imul, ↓ev_iadd, ↓ev_istore_6, ↓ev_iload_6, ↓ev_callv_4_0_0, ↓ev_callv_4_1_0, ↓ev_callv_4_2_0, ↓ev_callv_4_3_0, ↓ev_callv_4_4_0, ↓ev_iinc_5_1, ↓ev_goto, ↓ev_iinc_4_1, ↓ev_callv_1_0_1, ↓ev_callv_1_1_1, ↓ev_callv_1_2_1, ↓ev_callv_1_3_1, ↓ev_callv_1_4_1, ↓ev_if_eq, ↓ev_getf_0_3, ↓ev_iast_m1, ↓ev_iast_m2, ↓ev_iast_m3, ↓ev_iast_m4, ↓ev_iast_m5, ↓ev_iast_m6, ↓ev_iast_o3, ↓ev_ret, Nat.reduceAdd]
    refine k_step t2 (fun h3 o3 t3 hn => ?_) (fun h3 o3 z0 z1 t3 => ?_)
    · rw [gt_no hn] at hp
      exact ⟨fun _ => hp h3 (o2.tr o3) t3, fun c2 => absurd rfl c2⟩
    · rw [gt_yes z0 z1] at hp
      refine ⟨fun c2 => absurd c2 (by decide), fun _ => ?_⟩
      try simp (disch := omega) only [pk_mul, nI_add, n_lt0, n_le0, n_eq0, n_ge0, n_gt0, n_lt, n_le, n_eq, n_in, n_div, n_rem, n_rem2, n_m1, nI_clamp, bz_0, bz_1, tI_0, tI_bz, n4, n16, eq_self, Nat.reduceLT, Nat.reduceLeDiff, Nat.reduceEqDiff, Nat.reduceAdd, Nat.reduceMul, Nat.reduceDiv, Nat.reduceMod, Nat.le_refl, decide_eq_false_iff_not, Classical.not_not, true_and, and_true, false_and, and_false, not_true_eq_false, not_false_eq_true, forall_const, true_implies, false_implies, implies_true, ne_eq]
      exact ⟨by omega, hp _ (o2.tr (o3.tr (OT.oi Oi.up))) (t3.img Oi.up (t3.1.bk1 (by dsimp only; omega) _))⟩
  by_cases hs1 : safe = 1
  · rw [if_pos hs1] at hp
    subst hs1
    suffices H : ∀ (f k : Nat) (h2 : mH) (o5 o6 : Option mV), k + f = 16 → OT h h2 → TR h2 L (mvF L l y k σ) → EX (Kd sL (d + 4)) sL md_X2_moveOnto (pU p) 1 [some (.inr (.inr (.inr 2))), some (.inl (nI l)), some (.inl y), some (.inl (nI 1)), some (.inl (nI k)), o5, o6] [] h2 from H 16 0 h _ _ rfl OT.rf hT
    intro f
    induction f with
    | zero =>
      intro k h2 o5 o6 hk o t
      refine EX.go (Kd_mono _ _) [false, true, false, false, false, false, true, false, false, true, false, false] 40 1 ?_
      dsimp only [wpc_s, wsl_t, wsl_f, gD_0, gD_s, ↓denB_n, pI_s, pG_s, pU_n, cb_X2_moveOnto_0, cb_X2_moveOnto_1, cb_X2_moveOnto_2, cb_X2_moveOnto_3, cb_X2_moveOnto_4, cb_X2_moveOnto_5, cb_X2_moveOnto_6, cb_X2_moveOnto_7, cb_X2_moveOnto_8, cb_X2_moveOnto_9, cb_X2_moveOnto_10, cb_X2_moveOnto_11, ↓ev_iconst_0, ↓ev_istore_4, ↓ev_iload_4, ↓ev_bipush_16, ↓ev_icmp_ge, ↓ev_iload_n_3, ↓ev_iconst_1, ↓ev_icmp_ne, ↓ev_aload_n_0, ↓ev_getf_2_0, ↓ev_iload_n_1, ↓ev_callv_3_0_1, ↓ev_callv_3_1_1, ↓ev_callv_3_2_1, ↓ev_callv_3_3_1, ↓ev_callv_3_4_1, ↓ev_callv_3_5_1, ↓ev_if_ne, ↓ev_iload_n_2, ↓ev_callv_4_0_1, ↓ev_callv_4_1_1, ↓ev_callv_4_2_1, ↓ev_callv_4_3_1, ↓ev_callv_4_4_1, ↓ev_istore_5, ↓ev_iload_5, ↓ev_iconst_4, ↓ev_imul, ↓ev_iadd, ↓ev_istore_6, ↓ev_iload_6, ↓ev_callv_4_0_0, ↓ev_callv_4_1_0, ↓ev_callv_4_2_0, ↓ev_callv_4_3_0, ↓ev_callv_4_4_0, ↓ev_iinc_5_1, ↓ev_goto, ↓ev_iinc_4_1, ↓ev_callv_1_0_1, ↓ev_callv_1_1_1, ↓ev_callv_1_2_1, ↓ev_callv_1_3_1, ↓ev_callv_1_4_1, ↓ev_if_eq, ↓ev_getf_0_3, ↓ev_iast_m1, ↓ev_iast_m2, ↓ev_iast_m3, ↓ev_iast_m4, ↓ev_iast_m5, ↓ev_iast_m6, ↓ev_iast_o3, ↓ev_ret, Nat.reduceAdd]
      try simp (disch := omega) only [pk_mul, nI_add, n_lt0, n_le0, n_eq0, n_ge0, n_gt0, n_lt, n_le, n_eq, n_in, n_div, n_rem, n_rem2, n_m1, nI_clamp, bz_0, bz_1, tI_0, tI_bz, n4, n16, eq_self, Nat.reduceLT, Nat.reduceLeDiff, Nat.reduceEqDiff, Nat.reduceAdd, Nat.reduceMul, Nat.reduceDiv, Nat.reduceMod, Nat.le_refl, decide_eq_false_iff_not, Classical.not_not, true_and, and_true, false_and, and_false, not_true_eq_false, not_false_eq_true, forall_const, true_implies, false_implies, implies_true, ne_eq]
      have hk4 : k = 16 := by omega
      subst hk4
      exact ⟨fun _ => J9 h2 _ _ _ _ o t (mn_mvF (by omega) 16 (by omega) σ) hp, fun c2 => absurd (show 16 ≤ 16 by omega) c2⟩
    | succ f ih =>
      intro k h2 o5 o6 hk o t
      refine EX.go (Kd_mono _ _) [false, true, false, false, false, false, true, false, true, true, false, false] 40 1 ?_
      dsimp only [wpc_s, wsl_t, wsl_f, gD_0, gD_s, ↓denB_n, pI_s, pG_s, pU_n, cb_X2_moveOnto_0, cb_X2_moveOnto_1, cb_X2_moveOnto_2, cb_X2_moveOnto_3, cb_X2_moveOnto_4, cb_X2_moveOnto_5, cb_X2_moveOnto_6, cb_X2_moveOnto_7, cb_X2_moveOnto_8, cb_X2_moveOnto_9, cb_X2_moveOnto_10, cb_X2_moveOnto_11, ↓ev_iconst_0, ↓ev_istore_4, ↓ev_iload_4, ↓ev_bipush_16, ↓ev_icmp_ge, ↓ev_iload_n_3, ↓ev_iconst_1, ↓ev_icmp_ne, ↓ev_aload_n_0, ↓ev_getf_2_0, ↓ev_iload_n_1, ↓ev_callv_3_0_1, ↓ev_callv_3_1_1, ↓ev_callv_3_2_1, ↓ev_callv_3_3_1, ↓ev_callv_3_4_1, ↓ev_callv_3_5_1, ↓ev_if_ne, ↓ev_iload_n_2, ↓ev_callv_4_0_1, ↓ev_callv_4_1_1, ↓ev_callv_4_2_1, ↓ev_callv_4_3_1, ↓ev_callv_4_4_1, ↓ev_istore_5, ↓ev_iload_5, ↓ev_iconst_4, ↓ev_imul, ↓ev_iadd, ↓ev_istore_6, ↓ev_iload_6, ↓ev_callv_4_0_0, ↓ev_callv_4_1_0, ↓ev_callv_4_2_0, ↓ev_callv_4_3_0, ↓ev_callv_4_4_0, ↓ev_iinc_5_1, ↓ev_goto, ↓ev_iinc_4_1, ↓ev_callv_1_0_1, ↓ev_callv_1_1_1, ↓ev_callv_1_2_1, ↓ev_callv_1_3_1, ↓ev_callv_1_4_1, ↓ev_if_eq, ↓ev_getf_0_3, ↓ev_iast_m1, ↓ev_iast_m2, ↓ev_iast_m3, ↓ev_iast_m4, ↓ev_iast_m5, ↓ev_iast_m6, ↓ev_iast_o3, ↓ev_ret, Nat.reduceAdd]
      try simp (disch := omega) only [pk_mul, nI_add, n_lt0, n_le0, n_eq0, n_ge0, n_gt0, n_lt, n_le, n_eq, n_in, n_div, n_rem, n_rem2, n_m1, nI_clamp, bz_0, bz_1, tI_0, tI_bz, n4, n16, eq_self, Nat.reduceLT, Nat.reduceLeDiff, Nat.reduceEqDiff, Nat.reduceAdd, Nat.reduceMul, Nat.reduceDiv, Nat.reduceMod, Nat.le_refl, decide_eq_false_iff_not, Classical.not_not, true_and, and_true, false_and, and_false, not_true_eq_false, not_false_eq_true, forall_const, true_implies, false_implies, implies_true, ne_eq]
      refine ⟨fun c2 => absurd c2 (by omega), fun _ => ?_⟩
      have J8 : ∀ (h2 : mH) (o5 o6 : Option mV), OT h h2 → TR h2 L (mvF L l y (k + 1) σ) → EX (Kd sL (d + 4)) sL md_X2_moveOnto (pU p) 8 [some (.inr (.inr (.inr 2))), some (.inl (nI l)), some (.inl y), some (.inl (nI 1)), some (.inl (nI k)), o5, o6] [] h2 := by
        intro h2 o5 o6 o2 t2
        refine EX.go (Kd_mono _ _) [false, true, false, false, false, false, true, false, false, false, false, false] 40 8 ?_
        dsimp only [wpc_s, wsl_t, wsl_f, gD_0, gD_s, ↓denB_n, pI_s, pG_s, pU_n, cb_X2_moveOnto_0, cb_X2_moveOnto_1, cb_X2_moveOnto_2, cb_X2_moveOnto_3, cb_X2_moveOnto_4, cb_X2_moveOnto_5, cb_X2_moveOnto_6, cb_X2_moveOnto_7, cb_X2_moveOnto_8, cb_X2_moveOnto_9, cb_X2_moveOnto_10, cb_X2_moveOnto_11, ↓ev_iconst_0, ↓ev_istore_4, ↓ev_iload_4, ↓ev_bipush_16, ↓ev_icmp_ge, ↓ev_iload_n_3, ↓ev_iconst_1, ↓ev_icmp_ne, ↓ev_aload_n_0, ↓ev_getf_2_0, ↓ev_iload_n_1, ↓ev_callv_3_0_1, ↓ev_callv_3_1_1, ↓ev_callv_3_2_1, ↓ev_callv_3_3_1, ↓ev_callv_3_4_1, ↓ev_callv_3_5_1, ↓ev_if_ne, ↓ev_iload_n_2, ↓ev_callv_4_0_1, ↓ev_callv_4_1_1, ↓ev_callv_4_2_1, ↓ev_callv_4_3_1, ↓ev_callv_4_4_1, ↓ev_istore_5, ↓ev_iload_5, ↓ev_iconst_4, ↓ev_imul, ↓ev_iadd, ↓ev_istore_6, ↓ev_iload_6, ↓ev_callv_4_0_0, ↓ev_callv_4_1_0, ↓ev_callv_4_2_0, ↓ev_callv_4_3_0, ↓ev_callv_4_4_0, ↓ev_iinc_5_1, ↓ev_goto, ↓ev_iinc_4_1, ↓ev_callv_1_0_1, ↓ev_callv_1_1_1, ↓ev_callv_1_2_1, ↓ev_callv_1_3_1, ↓ev_callv_1_4_1, ↓ev_if_eq, ↓ev_getf_0_3, ↓ev_iast_m1, ↓ev_iast_m2, ↓ev_iast_m3, ↓ev_iast_m4, ↓ev_iast_m5, ↓ev_iast_m6, ↓ev_iast_o3, ↓ev_ret, Nat.reduceAdd]
        try simp (disch := omega) only [pk_mul, nI_add, n_lt0, n_le0, n_eq0, n_ge0, n_gt0, n_lt, n_le, n_eq, n_in, n_div, n_rem, n_rem2, n_m1, nI_clamp, bz_0, bz_1, tI_0, tI_bz, n4, n16, eq_self, Nat.reduceLT, Nat.reduceLeDiff, Nat.reduceEqDiff, Nat.reduceAdd, Nat.reduceMul, Nat.reduceDiv, Nat.reduceMod, Nat.le_refl, decide_eq_false_iff_not, Classical.not_not, true_and, and_true, false_and, and_false, not_true_eq_false, not_false_eq_true, forall_const, true_implies, false_implies, implies_true, ne_eq]
        exact ih (k + 1) h2 _ _ (by omega) o2 t2
      rw [mvF] at J8
      refine k_dataOf t.1 (by omega) (by omega) ?_
      have hdl := dof_lt (mvF L l y k σ).1 l k
      try simp (disch := omega) only [pk_mul, nI_add, n_lt0, n_le0, n_eq0, n_ge0, n_gt0, n_lt, n_le, n_eq, n_in, n_div, n_rem, n_rem2, n_m1, nI_clamp, bz_0, bz_1, tI_0, tI_bz, n4, n16, eq_self, Nat.reduceLT, Nat.reduceLeDiff, Nat.reduceEqDiff, Nat.reduceAdd, Nat.reduceMul, Nat.reduceDiv, Nat.reduceMod, Nat.le_refl, decide_eq_false_iff_not, Classical.not_not, true_and, and_true, false_and, and_false, not_true_eq_false, not_false_eq_true, forall_const, true_implies, false_implies, implies_true, ne_eq]
      refine ⟨fun c => ?_, fun c => ?_⟩
      · rw [if_neg (fun z => c z.1)] at J8
        exact J8 h2 _ _ o t
      · refine k_sameBlock t.1 (by omega) ?_
        try simp (disch := omega) only [pk_mul, nI_add, n_lt0, n_le0, n_eq0, n_ge0, n_gt0, n_lt, n_le, n_eq, n_in, n_div, n_rem, n_rem2, n_m1, nI_clamp, bz_0, bz_1, tI_0, tI_bz, n4, n16, eq_self, Nat.reduceLT, Nat.reduceLeDiff, Nat.reduceEqDiff, Nat.reduceAdd, Nat.reduceMul, Nat.reduceDiv, Nat.reduceMod, Nat.le_refl, decide_eq_false_iff_not, Classical.not_not, true_and, and_true, false_and, and_false, not_true_eq_false, not_false_eq_true, forall_const, true_implies, false_implies, implies_true, ne_eq]
        refine ⟨fun c2 => ?_, fun c2 => ?_⟩
        · rw [if_neg (fun z => c2 z.2)] at J8
          exact J8 h2 _ _ o t
        · rw [if_pos ⟨c, c2⟩] at J8
          suffices H2 : ∀ (f2 k2 : Nat) (h3 : mH) (o6 : Option mV), k2 + f2 = 4 → OT h h3 → TR h3 L (mvK L l k k2 (mvF L l y k σ)) → EX (Kd sL (d + 4)) sL md_X2_moveOnto (pU p) 6 [some (.inr (.inr (.inr 2))), some (.inl (nI l)), some (.inl y), some (.inl (nI 1)), some (.inl (nI k)), some (.inl (nI k2)), o6] [] h3 from H2 4 0 h2 _ rfl o t
          intro f2
          induction f2 with
          | zero =>
            intro k2 h3 o6 hk2 o3 t3
            refine EX.go (Kd_mono _ _) [false, true, false, false, false, false, true, false, true, false, false, false] 40 6 ?_
            dsimp only [wpc_s, wsl_t, wsl_f, gD_0, gD_s, ↓denB_n, pI_s, pG_s, pU_n, cb_X2_moveOnto_0, cb_X2_moveOnto_1, cb_X2_moveOnto_2, cb_X2_moveOnto_3, cb_X2_moveOnto_4, cb_X2_moveOnto_5, cb_X2_moveOnto_6, cb_X2_moveOnto_7, cb_X2_moveOnto_8, cb_X2_moveOnto_9, cb_X2_moveOnto_10, cb_X2_moveOnto_11, ↓ev_iconst_0, ↓ev_istore_4, ↓ev_iload_4, ↓ev_bipush_16, ↓ev_icmp_ge, ↓ev_iload_n_3, ↓ev_iconst_1, ↓ev_icmp_ne, ↓ev_aload_n_0, ↓ev_getf_2_0, ↓ev_iload_n_1, ↓ev_callv_3_0_1, ↓ev_callv_3_1_1, ↓ev_callv_3_2_1, ↓ev_callv_3_3_1, ↓ev_callv_3_4_1, ↓ev_callv_3_5_1, ↓ev_if_ne, ↓ev_iload_n_2, ↓ev_callv_4_0_1, ↓ev_callv_4_1_1, ↓ev_callv_4_2_1, ↓ev_callv_4_3_1, ↓ev_callv_4_4_1, ↓ev_istore_5, ↓ev_iload_5, ↓ev_iconst_4, ↓ev_imul, ↓ev_iadd, ↓ev_istore_6, ↓ev_iload_6, ↓ev_callv_4_0_0, ↓ev_callv_4_1_0, ↓ev_callv_4_2_0, ↓ev_callv_4_3_0, ↓ev_callv_4_4_0, ↓ev_iinc_5_1, ↓ev_goto, ↓ev_iinc_4_1, ↓ev_callv_1_0_1, ↓ev_callv_1_1_1, ↓ev_callv_1_2_1, ↓ev_callv_1_3_1, ↓ev_callv_1_4_1, ↓ev_if_eq, ↓ev_getf_0_3, ↓ev_iast_m1, ↓ev_iast_m2, ↓ev_iast_m3, ↓ev_iast_m4, ↓ev_iast_m5, ↓ev_iast_m6, ↓ev_iast_o3, ↓ev_ret, Nat.reduceAdd]
            try simp (disch := omega) only [pk_mul, nI_add, n_lt0, n_le0, n_eq0, n_ge0, n_gt0, n_lt, n_le, n_eq, n_in, n_div, n_rem, n_rem2, n_m1, nI_clamp, bz_0, bz_1, tI_0, tI_bz, n4, n16, eq_self, Nat.reduceLT, Nat.reduceLeDiff, Nat.reduceEqDiff, Nat.reduceAdd, Nat.reduceMul, Nat.reduceDiv, Nat.reduceMod, Nat.le_refl, decide_eq_false_iff_not, Classical.not_not, true_and, and_true, false_and, and_false, not_true_eq_false, not_false_eq_true, forall_const, true_implies, false_implies, implies_true, ne_eq]
            have hk4 : k2 = 4 := by omega
            subst hk4
            exact ⟨fun _ => J8 h3 _ _ o3 t3, fun c2 => absurd (show 4 ≤ 4 by omega) c2⟩
          | succ f2 ih2 =>
            intro k2 h3 o6 hk2 o3 t3
            refine EX.go (Kd_mono _ _) [false, true, false, false, false, false, true, false, true, false, false, false] 40 6 ?_
            dsimp only [wpc_s, wsl_t, wsl_f, gD_0, gD_s, ↓denB_n, pI_s, pG_s, pU_n, cb_X2_moveOnto_0, cb_X2_moveOnto_1, cb_X2_moveOnto_2, cb_X2_moveOnto_3, cb_X2_moveOnto_4, cb_X2_moveOnto_5, cb_X2_moveOnto_6, cb_X2_moveOnto_7, cb_X2_moveOnto_8, cb_X2_moveOnto_9, cb_X2_moveOnto_10, cb_X2_moveOnto_11, ↓ev_iconst_0, ↓ev_istore_4, ↓ev_iload_4, ↓ev_bipush_16, ↓ev_icmp_ge, ↓ev_iload_n_3, ↓ev_iconst_1, ↓ev_icmp_ne, ↓ev_aload_n_0, ↓ev_getf_2_0, ↓ev_iload_n_1, ↓ev_callv_3_0_1, ↓ev_callv_3_1_1, ↓ev_callv_3_2_1, ↓ev_callv_3_3_1, ↓ev_callv_3_4_1, ↓ev_callv_3_5_1, ↓ev_if_ne, ↓ev_iload_n_2, ↓ev_callv_4_0_1, ↓ev_callv_4_1_1, ↓ev_callv_4_2_1, ↓ev_callv_4_3_1, ↓ev_callv_4_4_1, ↓ev_istore_5, ↓ev_iload_5, ↓ev_iconst_4, ↓ev_imul, ↓ev_iadd, ↓ev_istore_6, ↓ev_iload_6, ↓ev_callv_4_0_0, ↓ev_callv_4_1_0, ↓ev_callv_4_2_0, ↓ev_callv_4_3_0, ↓ev_callv_4_4_0, ↓ev_iinc_5_1, ↓ev_goto, ↓ev_iinc_4_1, ↓ev_callv_1_0_1, ↓ev_callv_1_1_1, ↓ev_callv_1_2_1, ↓ev_callv_1_3_1, ↓ev_callv_1_4_1, ↓ev_if_eq, ↓ev_getf_0_3, ↓ev_iast_m1, ↓ev_iast_m2, ↓ev_iast_m3, ↓ev_iast_m4, ↓ev_iast_m5, ↓ev_iast_m6, ↓ev_iast_o3, ↓ev_ret, Nat.reduceAdd]
            try simp (disch := omega) only [pk_mul, nI_add, n_lt0, n_le0, n_eq0, n_ge0, n_gt0, n_lt, n_le, n_eq, n_in, n_div, n_rem, n_rem2, n_m1, nI_clamp, bz_0, bz_1, tI_0, tI_bz, n4, n16, eq_self, Nat.reduceLT, Nat.reduceLeDiff, Nat.reduceEqDiff, Nat.reduceAdd, Nat.reduceMul, Nat.reduceDiv, Nat.reduceMod, Nat.le_refl, decide_eq_false_iff_not, Classical.not_not, true_and, and_true, false_and, and_false, not_true_eq_false, not_false_eq_true, forall_const, true_implies, false_implies, implies_true, ne_eq]
            refine ⟨fun c2 => absurd c2 (by omega), fun _ => ?_⟩
            refine k_at t3.1 (by omega) ?_
            refine k_writePlace t3 (by rw [mn_mvK (by omega) (by omega) k2 (by omega), mn_mvF (by omega) k (by omega)]; exact hl) (by omega) (fun h4 o4 t4 => ?_)
            refine ih2 (k2 + 1) h4 _ (by omega) (o3.tr o4) ?_
            rw [mvK, show 4 * k + k2 = k * 4 + k2 by omega]
            exact t4
  · rw [if_neg hs1] at hp
    refine EX.go (Kd_mono _ _) [false, true, false, false, false, false, true, false, false, true, false, false] 40 1 ?_
    dsimp only [wpc_s, wsl_t, wsl_f, gD_0, gD_s, ↓denB_n, pI_s, pG_s, pU_n, cb_X2_moveOnto_0, cb_X2_moveOnto_1, cb_X2_moveOnto_2, cb_X2_moveOnto_3, cb_X2_moveOnto_4, cb_X2_moveOnto_5, cb_X2_moveOnto_6, cb_X2_moveOnto_7, cb_X2_moveOnto_8, cb_X2_moveOnto_9, cb_X2_moveOnto_10, cb_X2_moveOnto_11, ↓ev_iconst_0, ↓ev_istore_4, ↓ev_iload_4, ↓ev_bipush_16, ↓ev_icmp_ge, ↓ev_iload_n_3, ↓ev_iconst_1, ↓ev_icmp_ne, ↓ev_aload_n_0, ↓ev_getf_2_0, ↓ev_iload_n_1, ↓ev_callv_3_0_1, ↓ev_callv_3_1_1, ↓ev_callv_3_2_1, ↓ev_callv_3_3_1, ↓ev_callv_3_4_1, ↓ev_callv_3_5_1, ↓ev_if_ne, ↓ev_iload_n_2, ↓ev_callv_4_0_1, ↓ev_callv_4_1_1, ↓ev_callv_4_2_1, ↓ev_callv_4_3_1, ↓ev_callv_4_4_1, ↓ev_istore_5, ↓ev_iload_5, ↓ev_iconst_4, ↓ev_imul, ↓ev_iadd, ↓ev_istore_6, ↓ev_iload_6, ↓ev_callv_4_0_0, ↓ev_callv_4_1_0, ↓ev_callv_4_2_0, ↓ev_callv_4_3_0, ↓ev_callv_4_4_0, ↓ev_iinc_5_1, ↓ev_goto, ↓ev_iinc_4_1, ↓ev_callv_1_0_1, ↓ev_callv_1_1_1, ↓ev_callv_1_2_1, ↓ev_callv_1_3_1, ↓ev_callv_1_4_1, ↓ev_if_eq, ↓ev_getf_0_3, ↓ev_iast_m1, ↓ev_iast_m2, ↓ev_iast_m3, ↓ev_iast_m4, ↓ev_iast_m5, ↓ev_iast_m6, ↓ev_iast_o3, ↓ev_ret, Nat.reduceAdd]
    have hs0 : safe = 0 := by omega
    subst hs0
    try simp (disch := omega) only [pk_mul, nI_add, n_lt0, n_le0, n_eq0, n_ge0, n_gt0, n_lt, n_le, n_eq, n_in, n_div, n_rem, n_rem2, n_m1, nI_clamp, bz_0, bz_1, tI_0, tI_bz, n4, n16, eq_self, Nat.reduceLT, Nat.reduceLeDiff, Nat.reduceEqDiff, Nat.reduceAdd, Nat.reduceMul, Nat.reduceDiv, Nat.reduceMod, Nat.le_refl, decide_eq_false_iff_not, Classical.not_not, true_and, and_true, false_and, and_false, not_true_eq_false, not_false_eq_true, forall_const, true_implies, false_implies, implies_true, ne_eq]
    exact J9 h _ _ _ _ OT.rf hT rfl hp
theorem k_foldAlike {p : mH → Prop} (hT : TR h L σ) (hp : ∀ h', OT h h' → TR h' L (fol L σ) → p h') : mU (Kd sL (d + 3)) 51 [.inr (.inr (.inr 2))] h p := by
  refine ke_X2_foldAlike ?_
  refine EX.go (Kd_mono _ _) [false, true, false, true, false, false, false, false, false, false, false, false] 40 0 ?_
  dsimp only [wpc_s, wsl_t, wsl_f, gD_0, gD_s, ↓denB_n, pI_s, pG_s, pU_n, cb_X2_foldAlike_0, cb_X2_foldAlike_1, cb_X2_foldAlike_2, cb_X2_foldAlike_3, cb_X2_foldAlike_4, cb_X2_foldAlike_5, cb_X2_foldAlike_6, cb_X2_foldAlike_7, cb_X2_foldAlike_8, cb_X2_foldAlike_9, cb_X2_foldAlike_10, cb_X2_foldAlike_11, ↓ev_aload_n_0, ↓ev_getf_2_0, ↓ev_iconst_0, ↓ev_bipush_14, ↓ev_callv_3_0_2, ↓ev_callv_3_1_2, ↓ev_callv_3_2_2, ↓ev_callv_3_3_2, ↓ev_callv_3_4_2, ↓ev_lstore_n_1, ↓ev_lload_n_1, ↓ev_callv_2_0_2, ↓ev_callv_2_1_2, ↓ev_callv_2_2_2, ↓ev_callv_2_3_2, ↓ev_callv_2_4_2, ↓ev_lstore_n_3, ↓ev_iconst_1, ↓ev_istore_5, ↓ev_iload_5, ↓ev_bipush_64, ↓ev_icmp_ge, ↓ev_istore_6, ↓ev_iload_6, ↓ev_iconst_4, ↓ev_calls_2_0_1, ↓ev_calls_2_1_1, ↓ev_calls_2_2_1, ↓ev_calls_2_3_1, ↓ev_calls_2_4_1, ↓ev_if_eq, ↓ev_callv_3_0_1, ↓ev_callv_3_1_1, ↓ev_callv_3_2_1, ↓ev_callv_3_3_1, ↓ev_callv_3_4_1, ↓ev_callv_3_5_1, ↓ev_istore_7, ↓ev_lload_n_3, ↓ev_iload_7, ↓ev_istore_8, ↓ev_iload_8, ↓ev_callv_3_0_0, ↓ev_callv_3_1_0, ↓ev_callv_3_2_0, ↓ev_callv_3_3_0, ↓ev_callv_3_4_0, ↓ev_callv_1_0_1, ↓ev_callv_1_1_1, ↓ev_callv_1_2_1, ↓ev_callv_1_3_1, ↓ev_callv_1_4_1, ↓ev_getf_0_0, ↓ev_imul, ↓ev_iadd, ↓ev_iast_m1, ↓ev_iast_m2, ↓ev_iast_m3, ↓ev_iast_m4, ↓ev_iast_m5, ↓ev_iast_m6, ↓ev_iast_o3, ↓ev_iconst_m1, ↓ev_iinc_6_1, ↓ev_goto, ↓ev_iinc_5_1, ↓ev_ret, Nat.reduceAdd]
  refine k_tablesOf hT.1 (by decide) (by decide) ?_
  refine k_dataNamedBy hT.1 ?_
  unfold fol at hp
  have hP0 : (fun t => dec (isT σ.1 0 14 t)) 0 = false := by
    show dec (isT σ.1 0 14 0) = false
    rw [dec_f]
    exact fun z => z.1 rfl
  generalize (fun t => dec (isT σ.1 0 14 t)) = P at hp hP0 ⊢
  generalize (fun c => dec (isD σ.1 P c)) = Q at hp ⊢
  suffices H : ∀ (f k : Nat) (h2 : mH) (o6 o7 o8 : Option mV), k + f = 64 → 1 ≤ k → OT h h2 → TR h2 L (foF L P Q k σ) → EX (Kd sL (d + 2)) sL md_X2_foldAlike (pU p) 1 [some (.inr (.inr (.inr 2))), some (.inr (.inl (lOr P 64))), none, some (.inr (.inl (lOr Q 64))), none, some (.inl (nI k)), o6, o7, o8] [] h2 by
    refine H 63 1 h _ _ _ rfl (Nat.le_refl 1) OT.rf ?_
    rw [foF, hP0, if_neg (by decide)]
    exact hT
  intro f
  induction f with
  | zero =>
    intro k h2 o6 o7 o8 hk h1 o t
    refine EX.go (Kd_mono _ _) [false, true, false, true, false, false, false, false, false, false, false, false] 40 1 ?_
    dsimp only [wpc_s, wsl_t, wsl_f, gD_0, gD_s, ↓denB_n, pI_s, pG_s, pU_n, cb_X2_foldAlike_0, cb_X2_foldAlike_1, cb_X2_foldAlike_2, cb_X2_foldAlike_3, cb_X2_foldAlike_4, cb_X2_foldAlike_5, cb_X2_foldAlike_6, cb_X2_foldAlike_7, cb_X2_foldAlike_8, cb_X2_foldAlike_9, cb_X2_foldAlike_10, cb_X2_foldAlike_11, ↓ev_aload_n_0, ↓ev_getf_2_0, ↓ev_iconst_0, ↓ev_bipush_14, ↓ev_callv_3_0_2, ↓ev_callv_3_1_2, ↓ev_callv_3_2_2, ↓ev_callv_3_3_2, ↓ev_callv_3_4_2, ↓ev_lstore_n_1, ↓ev_lload_n_1, ↓ev_callv_2_0_2, ↓ev_callv_2_1_2, ↓ev_callv_2_2_2, ↓ev_callv_2_3_2, ↓ev_callv_2_4_2, ↓ev_lstore_n_3, ↓ev_iconst_1, ↓ev_istore_5, ↓ev_iload_5, ↓ev_bipush_64, ↓ev_icmp_ge, ↓ev_istore_6, ↓ev_iload_6, ↓ev_iconst_4, ↓ev_calls_2_0_1, ↓ev_calls_2_1_1, ↓ev_calls_2_2_1, ↓ev_calls_2_3_1, ↓ev_calls_2_4_1, ↓ev_if_eq, ↓ev_callv_3_0_1, ↓ev_callv_3_1_1, ↓ev_callv_3_2_1, ↓ev_callv_3_3_1, ↓ev_callv_3_4_1, ↓ev_callv_3_5_1, ↓ev_istore_7, ↓ev_lload_n_3, ↓ev_iload_7, ↓ev_istore_8, ↓ev_iload_8, ↓ev_callv_3_0_0, ↓ev_callv_3_1_0, ↓ev_callv_3_2_0, ↓ev_callv_3_3_0, ↓ev_callv_3_4_0, ↓ev_callv_1_0_1, ↓ev_callv_1_1_1, ↓ev_callv_1_2_1, ↓ev_callv_1_3_1, ↓ev_callv_1_4_1, ↓ev_getf_0_0, ↓ev_imul, ↓ev_iadd, ↓ev_iast_m1, ↓ev_iast_m2, ↓ev_iast_m3, ↓ev_iast_m4, ↓ev_iast_m5, ↓ev_iast_m6, ↓ev_iast_o3, ↓ev_iconst_m1, ↓ev_iinc_6_1, ↓ev_goto, ↓ev_iinc_5_1, ↓ev_ret, Nat.reduceAdd]
    try simp (disch := omega) only [pk_mul, nI_add, n_lt0, n_le0, n_eq0, n_ge0, n_gt0, n_lt, n_le, n_eq, n_in, n_div, n_rem, n_rem2, n_m1, nI_clamp, bz_0, bz_1, tI_0, tI_bz, n4, n16, eq_self, Nat.reduceLT, Nat.reduceLeDiff, Nat.reduceEqDiff, Nat.reduceAdd, Nat.reduceMul, Nat.reduceDiv, Nat.reduceMod, Nat.le_refl, decide_eq_false_iff_not, Classical.not_not, true_and, and_true, false_and, and_false, not_true_eq_false, not_false_eq_true, forall_const, true_implies, false_implies, implies_true, ne_eq]
    have hk4 : k = 64 := by omega
    subst hk4
    exact ⟨fun _ => hp h2 o t, fun c2 => absurd (show 64 ≤ 64 by omega) c2⟩
  | succ f ih =>
    intro k h2 o6 o7 o8 hk h1 o t
    refine EX.go (Kd_mono _ _) [false, true, false, true, false, false, false, false, false, false, false, false] 40 1 ?_
    dsimp only [wpc_s, wsl_t, wsl_f, gD_0, gD_s, ↓denB_n, pI_s, pG_s, pU_n, cb_X2_foldAlike_0, cb_X2_foldAlike_1, cb_X2_foldAlike_2, cb_X2_foldAlike_3, cb_X2_foldAlike_4, cb_X2_foldAlike_5, cb_X2_foldAlike_6, cb_X2_foldAlike_7, cb_X2_foldAlike_8, cb_X2_foldAlike_9, cb_X2_foldAlike_10, cb_X2_foldAlike_11, ↓ev_aload_n_0, ↓ev_getf_2_0, ↓ev_iconst_0, ↓ev_bipush_14, ↓ev_callv_3_0_2, ↓ev_callv_3_1_2, ↓ev_callv_3_2_2, ↓ev_callv_3_3_2, ↓ev_callv_3_4_2, ↓ev_lstore_n_1, ↓ev_lload_n_1, ↓ev_callv_2_0_2, ↓ev_callv_2_1_2, ↓ev_callv_2_2_2, ↓ev_callv_2_3_2, ↓ev_callv_2_4_2, ↓ev_lstore_n_3, ↓ev_iconst_1, ↓ev_istore_5, ↓ev_iload_5, ↓ev_bipush_64, ↓ev_icmp_ge, ↓ev_istore_6, ↓ev_iload_6, ↓ev_iconst_4, ↓ev_calls_2_0_1, ↓ev_calls_2_1_1, ↓ev_calls_2_2_1, ↓ev_calls_2_3_1, ↓ev_calls_2_4_1, ↓ev_if_eq, ↓ev_callv_3_0_1, ↓ev_callv_3_1_1, ↓ev_callv_3_2_1, ↓ev_callv_3_3_1, ↓ev_callv_3_4_1, ↓ev_callv_3_5_1, ↓ev_istore_7, ↓ev_lload_n_3, ↓ev_iload_7, ↓ev_istore_8, ↓ev_iload_8, ↓ev_callv_3_0_0, ↓ev_callv_3_1_0, ↓ev_callv_3_2_0, ↓ev_callv_3_3_0, ↓ev_callv_3_4_0, ↓ev_callv_1_0_1, ↓ev_callv_1_1_1, ↓ev_callv_1_2_1, ↓ev_callv_1_3_1, ↓ev_callv_1_4_1, ↓ev_getf_0_0, ↓ev_imul, ↓ev_iadd, ↓ev_iast_m1, ↓ev_iast_m2, ↓ev_iast_m3, ↓ev_iast_m4, ↓ev_iast_m5, ↓ev_iast_m6, ↓ev_iast_o3, ↓ev_iconst_m1, ↓ev_iinc_6_1, ↓ev_goto, ↓ev_iinc_5_1, ↓ev_ret, Nat.reduceAdd]
    try simp (disch := omega) only [pk_mul, nI_add, n_lt0, n_le0, n_eq0, n_ge0, n_gt0, n_lt, n_le, n_eq, n_in, n_div, n_rem, n_rem2, n_m1, nI_clamp, bz_0, bz_1, tI_0, tI_bz, n4, n16, eq_self, Nat.reduceLT, Nat.reduceLeDiff, Nat.reduceEqDiff, Nat.reduceAdd, Nat.reduceMul, Nat.reduceDiv, Nat.reduceMod, Nat.le_refl, decide_eq_false_iff_not, Classical.not_not, true_and, and_true, false_and, and_false, not_true_eq_false, not_false_eq_true, forall_const, true_implies, false_implies, implies_true, ne_eq]
    refine ⟨fun c2 => absurd c2 (by omega), fun _ => ?_⟩
    have J10 : ∀ (h2 : mH) (o6 o7 o8 : Option mV), OT h h2 → TR h2 L (foF L P Q (k + 1) σ) → EX (Kd sL (d + 2)) sL md_X2_foldAlike (pU p) 10 [some (.inr (.inr (.inr 2))), some (.inr (.inl (lOr P 64))), none, some (.inr (.inl (lOr Q 64))), none, some (.inl (nI k)), o6, o7, o8] [] h2 := by
      intro h2 o6 o7 o8 o2 t2
      refine EX.go (Kd_mono _ _) [false, true, false, true, false, false, false, false, false, false, false, false] 40 10 ?_
      dsimp only [wpc_s, wsl_t, wsl_f, gD_0, gD_s, ↓denB_n, pI_s, pG_s, pU_n, cb_X2_foldAlike_0, cb_X2_foldAlike_1, cb_X2_foldAlike_2, cb_X2_foldAlike_3, cb_X2_foldAlike_4, cb_X2_foldAlike_5, cb_X2_foldAlike_6, cb_X2_foldAlike_7, cb_X2_foldAlike_8, cb_X2_foldAlike_9, cb_X2_foldAlike_10, cb_X2_foldAlike_11, ↓ev_aload_n_0, ↓ev_getf_2_0, ↓ev_iconst_0, ↓ev_bipush_14, ↓ev_callv_3_0_2, ↓ev_callv_3_1_2, ↓ev_callv_3_2_2, ↓ev_callv_3_3_2, ↓ev_callv_3_4_2, ↓ev_lstore_n_1, ↓ev_lload_n_1, ↓ev_callv_2_0_2, ↓ev_callv_2_1_2, ↓ev_callv_2_2_2, ↓ev_callv_2_3_2, ↓ev_callv_2_4_2, ↓ev_lstore_n_3, ↓ev_iconst_1, ↓ev_istore_5, ↓ev_iload_5, ↓ev_bipush_64, ↓ev_icmp_ge, ↓ev_istore_6, ↓ev_iload_6, ↓ev_iconst_4, ↓ev_calls_2_0_1, ↓ev_calls_2_1_1, ↓ev_calls_2_2_1, ↓ev_calls_2_3_1, ↓ev_calls_2_4_1, ↓ev_if_eq, ↓ev_callv_3_0_1, ↓ev_callv_3_1_1, ↓ev_callv_3_2_1, ↓ev_callv_3_3_1, ↓ev_callv_3_4_1, ↓ev_callv_3_5_1, ↓ev_istore_7, ↓ev_lload_n_3, ↓ev_iload_7, ↓ev_istore_8, ↓ev_iload_8, ↓ev_callv_3_0_0, ↓ev_callv_3_1_0, ↓ev_callv_3_2_0, ↓ev_callv_3_3_0, ↓ev_callv_3_4_0, ↓ev_callv_1_0_1, ↓ev_callv_1_1_1, ↓ev_callv_1_2_1, ↓ev_callv_1_3_1, ↓ev_callv_1_4_1, ↓ev_getf_0_0, ↓ev_imul, ↓ev_iadd, ↓ev_iast_m1, ↓ev_iast_m2, ↓ev_iast_m3, ↓ev_iast_m4, ↓ev_iast_m5, ↓ev_iast_m6, ↓ev_iast_o3, ↓ev_iconst_m1, ↓ev_iinc_6_1, ↓ev_goto, ↓ev_iinc_5_1, ↓ev_ret, Nat.reduceAdd]
      try simp (disch := omega) only [pk_mul, nI_add, n_lt0, n_le0, n_eq0, n_ge0, n_gt0, n_lt, n_le, n_eq, n_in, n_div, n_rem, n_rem2, n_m1, nI_clamp, bz_0, bz_1, tI_0, tI_bz, n4, n16, eq_self, Nat.reduceLT, Nat.reduceLeDiff, Nat.reduceEqDiff, Nat.reduceAdd, Nat.reduceMul, Nat.reduceDiv, Nat.reduceMod, Nat.le_refl, decide_eq_false_iff_not, Classical.not_not, true_and, and_true, false_and, and_false, not_true_eq_false, not_false_eq_true, forall_const, true_implies, false_implies, implies_true, ne_eq]
      exact ih (k + 1) h2 _ _ _ (by omega) (by omega) o2 t2
    rw [foF] at J10
    cases hPk : P k with
    | false =>
      rw [hPk, if_neg (by decide)] at J10
      refine EX.go (Kd_mono _ _) [false, true, false, true, false, false, false, false, false, false, true, false] 40 3 ?_
      dsimp only [wpc_s, wsl_t, wsl_f, gD_0, gD_s, ↓denB_n, pI_s, pG_s, pU_n, cb_X2_foldAlike_0, cb_X2_foldAlike_1, cb_X2_foldAlike_2, cb_X2_foldAlike_3, cb_X2_foldAlike_4, cb_X2_foldAlike_5, cb_X2_foldAlike_6, cb_X2_foldAlike_7, cb_X2_foldAlike_8, cb_X2_foldAlike_9, cb_X2_foldAlike_10, cb_X2_foldAlike_11, ↓ev_aload_n_0, ↓ev_getf_2_0, ↓ev_iconst_0, ↓ev_bipush_14, ↓ev_callv_3_0_2, ↓ev_callv_3_1_2, ↓ev_callv_3_2_2, ↓ev_callv_3_3_2, ↓ev_callv_3_4_2, ↓ev_lstore_n_1, ↓ev_lload_n_1, ↓ev_callv_2_0_2, ↓ev_callv_2_1_2, ↓ev_callv_2_2_2, ↓ev_callv_2_3_2, ↓ev_callv_2_4_2, ↓ev_lstore_n_3, ↓ev_iconst_1, ↓ev_istore_5, ↓ev_iload_5, ↓ev_bipush_64, ↓ev_icmp_ge, ↓ev_istore_6, ↓ev_iload_6, ↓ev_iconst_4, ↓ev_calls_2_0_1, ↓ev_calls_2_1_1, ↓ev_calls_2_2_1, ↓ev_calls_2_3_1, ↓ev_calls_2_4_1, ↓ev_if_eq, ↓ev_callv_3_0_1, ↓ev_callv_3_1_1, ↓ev_callv_3_2_1, ↓ev_callv_3_3_1, ↓ev_callv_3_4_1, ↓ev_callv_3_5_1, ↓ev_istore_7, ↓ev_lload_n_3, ↓ev_iload_7, ↓ev_istore_8, ↓ev_iload_8, ↓ev_callv_3_0_0, ↓ev_callv_3_1_0, ↓ev_callv_3_2_0, ↓ev_callv_3_3_0, ↓ev_callv_3_4_0, ↓ev_callv_1_0_1, ↓ev_callv_1_1_1, ↓ev_callv_1_2_1, ↓ev_callv_1_3_1, ↓ev_callv_1_4_1, ↓ev_getf_0_0, ↓ev_imul, ↓ev_iadd, ↓ev_iast_m1, ↓ev_iast_m2, ↓ev_iast_m3, ↓ev_iast_m4, ↓ev_iast_m5, ↓ev_iast_m6, ↓ev_iast_o3, ↓ev_iconst_m1, ↓ev_iinc_6_1, ↓ev_goto, ↓ev_iinc_5_1, ↓ev_ret, Nat.reduceAdd]
      try simp (disch := omega) only [pk_mul, nI_add, n_lt0, n_le0, n_eq0, n_ge0, n_gt0, n_lt, n_le, n_eq, n_in, n_div, n_rem, n_rem2, n_m1, nI_clamp, bz_0, bz_1, tI_0, tI_bz, n4, n16, eq_self, Nat.reduceLT, Nat.reduceLeDiff, Nat.reduceEqDiff, Nat.reduceAdd, Nat.reduceMul, Nat.reduceDiv, Nat.reduceMod, Nat.le_refl, decide_eq_false_iff_not, Classical.not_not, true_and, and_true, false_and, and_false, not_true_eq_false, not_false_eq_true, forall_const, true_implies, false_implies, implies_true, ne_eq]
      refine k_isIn (by omega) ?_
      try simp (disch := omega) only [pk_mul, nI_add, n_lt0, n_le0, n_eq0, n_ge0, n_gt0, n_lt, n_le, n_eq, n_in, n_div, n_rem, n_rem2, n_m1, nI_clamp, bz_0, bz_1, tI_0, tI_bz, n4, n16, eq_self, Nat.reduceLT, Nat.reduceLeDiff, Nat.reduceEqDiff, Nat.reduceAdd, Nat.reduceMul, Nat.reduceDiv, Nat.reduceMod, Nat.le_refl, decide_eq_false_iff_not, Classical.not_not, true_and, and_true, false_and, and_false, not_true_eq_false, not_false_eq_true, forall_const, true_implies, false_implies, implies_true, ne_eq]
      exact ⟨fun _ => J10 h2 _ _ _ o t, fun c => absurd hPk c⟩
    | true =>
      rw [hPk, if_pos rfl] at J10
      suffices H2 : ∀ (f2 k2 : Nat) (h3 : mH) (o7 o8 : Option mV), k2 + f2 = 4 → OT h h3 → TR h3 L (foK L Q k k2 (foF L P Q k σ)) → EX (Kd sL (d + 2)) sL md_X2_foldAlike (pU p) 3 [some (.inr (.inr (.inr 2))), some (.inr (.inl (lOr P 64))), none, some (.inr (.inl (lOr Q 64))), none, some (.inl (nI k)), some (.inl (nI k2)), o7, o8] [] h3 from H2 4 0 h2 _ _ rfl o t
      intro f2
      induction f2 with
      | zero =>
        intro k2 h3 o7 o8 hk2 o3 t3
        refine EX.go (Kd_mono _ _) [false, true, false, true, false, false, false, false, false, false, true, false] 40 3 ?_
        dsimp only [wpc_s, wsl_t, wsl_f, gD_0, gD_s, ↓denB_n, pI_s, pG_s, pU_n, cb_X2_foldAlike_0, cb_X2_foldAlike_1, cb_X2_foldAlike_2, cb_X2_foldAlike_3, cb_X2_foldAlike_4, cb_X2_foldAlike_5, cb_X2_foldAlike_6, cb_X2_foldAlike_7, cb_X2_foldAlike_8, cb_X2_foldAlike_9, cb_X2_foldAlike_10, cb_X2_foldAlike_11, ↓ev_aload_n_0, ↓ev_getf_2_0, ↓ev_iconst_0, ↓ev_bipush_14, ↓ev_callv_3_0_2, ↓ev_callv_3_1_2, ↓ev_callv_3_2_2, ↓ev_callv_3_3_2, ↓ev_callv_3_4_2, ↓ev_lstore_n_1, ↓ev_lload_n_1, ↓ev_callv_2_0_2, ↓ev_callv_2_1_2, ↓ev_callv_2_2_2, ↓ev_callv_2_3_2, ↓ev_callv_2_4_2, ↓ev_lstore_n_3, ↓ev_iconst_1, ↓ev_istore_5, ↓ev_iload_5, ↓ev_bipush_64, ↓ev_icmp_ge, ↓ev_istore_6, ↓ev_iload_6, ↓ev_iconst_4, ↓ev_calls_2_0_1, ↓ev_calls_2_1_1, ↓ev_calls_2_2_1, ↓ev_calls_2_3_1, ↓ev_calls_2_4_1, ↓ev_if_eq, ↓ev_callv_3_0_1, ↓ev_callv_3_1_1, ↓ev_callv_3_2_1, ↓ev_callv_3_3_1, ↓ev_callv_3_4_1, ↓ev_callv_3_5_1, ↓ev_istore_7, ↓ev_lload_n_3, ↓ev_iload_7, ↓ev_istore_8, ↓ev_iload_8, ↓ev_callv_3_0_0, ↓ev_callv_3_1_0, ↓ev_callv_3_2_0, ↓ev_callv_3_3_0, ↓ev_callv_3_4_0, ↓ev_callv_1_0_1, ↓ev_callv_1_1_1, ↓ev_callv_1_2_1, ↓ev_callv_1_3_1, ↓ev_callv_1_4_1, ↓ev_getf_0_0, ↓ev_imul, ↓ev_iadd, ↓ev_iast_m1, ↓ev_iast_m2, ↓ev_iast_m3, ↓ev_iast_m4, ↓ev_iast_m5, ↓ev_iast_m6, ↓ev_iast_o3, ↓ev_iconst_m1, ↓ev_iinc_6_1, ↓ev_goto, ↓ev_iinc_5_1, ↓ev_ret, Nat.reduceAdd]
        try simp (disch := omega) only [pk_mul, nI_add, n_lt0, n_le0, n_eq0, n_ge0, n_gt0, n_lt, n_le, n_eq, n_in, n_div, n_rem, n_rem2, n_m1, nI_clamp, bz_0, bz_1, tI_0, tI_bz, n4, n16, eq_self, Nat.reduceLT, Nat.reduceLeDiff, Nat.reduceEqDiff, Nat.reduceAdd, Nat.reduceMul, Nat.reduceDiv, Nat.reduceMod, Nat.le_refl, decide_eq_false_iff_not, Classical.not_not, true_and, and_true, false_and, and_false, not_true_eq_false, not_false_eq_true, forall_const, true_implies, false_implies, implies_true, ne_eq]
        have hk4 : k2 = 4 := by omega
        subst hk4
        exact ⟨fun _ => J10 h3 _ _ _ o3 t3, fun c2 => absurd (show 4 ≤ 4 by omega) c2⟩
      | succ f2 ih2 =>
        intro k2 h3 o7 o8 hk2 o3 t3
        refine EX.go (Kd_mono _ _) [false, true, false, true, false, false, false, false, true, true, true, false] 40 3 ?_
        dsimp only [wpc_s, wsl_t, wsl_f, gD_0, gD_s, ↓denB_n, pI_s, pG_s, pU_n, cb_X2_foldAlike_0, cb_X2_foldAlike_1, cb_X2_foldAlike_2, cb_X2_foldAlike_3, cb_X2_foldAlike_4, cb_X2_foldAlike_5, cb_X2_foldAlike_6, cb_X2_foldAlike_7, cb_X2_foldAlike_8, cb_X2_foldAlike_9, cb_X2_foldAlike_10, cb_X2_foldAlike_11, ↓ev_aload_n_0, ↓ev_getf_2_0, ↓ev_iconst_0, ↓ev_bipush_14, ↓ev_callv_3_0_2, ↓ev_callv_3_1_2, ↓ev_callv_3_2_2, ↓ev_callv_3_3_2, ↓ev_callv_3_4_2, ↓ev_lstore_n_1, ↓ev_lload_n_1, ↓ev_callv_2_0_2, ↓ev_callv_2_1_2, ↓ev_callv_2_2_2, ↓ev_callv_2_3_2, ↓ev_callv_2_4_2, ↓ev_lstore_n_3, ↓ev_iconst_1, ↓ev_istore_5, ↓ev_iload_5, ↓ev_bipush_64, ↓ev_icmp_ge, ↓ev_istore_6, ↓ev_iload_6, ↓ev_iconst_4, ↓ev_calls_2_0_1, ↓ev_calls_2_1_1, ↓ev_calls_2_2_1, ↓ev_calls_2_3_1, ↓ev_calls_2_4_1, ↓ev_if_eq, ↓ev_callv_3_0_1, ↓ev_callv_3_1_1, ↓ev_callv_3_2_1, ↓ev_callv_3_3_1, ↓ev_callv_3_4_1, ↓ev_callv_3_5_1, ↓ev_istore_7, ↓ev_lload_n_3, ↓ev_iload_7, ↓ev_istore_8, ↓ev_iload_8, ↓ev_callv_3_0_0, ↓ev_callv_3_1_0, ↓ev_callv_3_2_0, ↓ev_callv_3_3_0, ↓ev_callv_3_4_0, ↓ev_callv_1_0_1, ↓ev_callv_1_1_1, ↓ev_callv_1_2_1, ↓ev_callv_1_3_1, ↓ev_callv_1_4_1, ↓ev_getf_0_0, ↓ev_imul, ↓ev_iadd, ↓ev_iast_m1, ↓ev_iast_m2, ↓ev_iast_m3, ↓ev_iast_m4, ↓ev_iast_m5, ↓ev_iast_m6, ↓ev_iast_o3, ↓ev_iconst_m1, ↓ev_iinc_6_1, ↓ev_goto, ↓ev_iinc_5_1, ↓ev_ret, Nat.reduceAdd]
        try simp (disch := omega) only [pk_mul, nI_add, n_lt0, n_le0, n_eq0, n_ge0, n_gt0, n_lt, n_le, n_eq, n_in, n_div, n_rem, n_rem2, n_m1, nI_clamp, bz_0, bz_1, tI_0, tI_bz, n4, n16, eq_self, Nat.reduceLT, Nat.reduceLeDiff, Nat.reduceEqDiff, Nat.reduceAdd, Nat.reduceMul, Nat.reduceDiv, Nat.reduceMod, Nat.le_refl, decide_eq_false_iff_not, Classical.not_not, true_and, and_true, false_and, and_false, not_true_eq_false, not_false_eq_true, forall_const, true_implies, false_implies, implies_true, ne_eq]
        refine ⟨fun c2 => absurd c2 (by omega), fun _ => k_isIn (by omega) ?_⟩
        try simp (disch := omega) only [pk_mul, nI_add, n_lt0, n_le0, n_eq0, n_ge0, n_gt0, n_lt, n_le, n_eq, n_in, n_div, n_rem, n_rem2, n_m1, nI_clamp, bz_0, bz_1, tI_0, tI_bz, n4, n16, eq_self, Nat.reduceLT, Nat.reduceLeDiff, Nat.reduceEqDiff, Nat.reduceAdd, Nat.reduceMul, Nat.reduceDiv, Nat.reduceMod, Nat.le_refl, decide_eq_false_iff_not, Classical.not_not, true_and, and_true, false_and, and_false, not_true_eq_false, not_false_eq_true, forall_const, true_implies, false_implies, implies_true, ne_eq]
        refine ⟨fun c => absurd (hPk.symm.trans c) (by decide), fun _ => ?_⟩
        have J9 : ∀ (h3 : mH) (o7 o8 : Option mV), OT h h3 → TR h3 L (foK L Q k (k2 + 1) (foF L P Q k σ)) → EX (Kd sL (d + 2)) sL md_X2_foldAlike (pU p) 9 [some (.inr (.inr (.inr 2))), some (.inr (.inl (lOr P 64))), none, some (.inr (.inl (lOr Q 64))), none, some (.inl (nI k)), some (.inl (nI k2)), o7, o8] [] h3 := by
          intro h3 o7 o8 o3 t3
          refine EX.go (Kd_mono _ _) [false, true, false, true, false, false, false, false, false, false, false, false] 40 9 ?_
          dsimp only [wpc_s, wsl_t, wsl_f, gD_0, gD_s, ↓denB_n, pI_s, pG_s, pU_n, cb_X2_foldAlike_0, cb_X2_foldAlike_1, cb_X2_foldAlike_2, cb_X2_foldAlike_3, cb_X2_foldAlike_4, cb_X2_foldAlike_5, cb_X2_foldAlike_6, cb_X2_foldAlike_7, cb_X2_foldAlike_8, cb_X2_foldAlike_9, cb_X2_foldAlike_10, cb_X2_foldAlike_11, ↓ev_aload_n_0, ↓ev_getf_2_0, ↓ev_iconst_0, ↓ev_bipush_14, ↓ev_callv_3_0_2, ↓ev_callv_3_1_2, ↓ev_callv_3_2_2, ↓ev_callv_3_3_2, ↓ev_callv_3_4_2, ↓ev_lstore_n_1, ↓ev_lload_n_1, ↓ev_callv_2_0_2, ↓ev_callv_2_1_2, ↓ev_callv_2_2_2, ↓ev_callv_2_3_2, ↓ev_callv_2_4_2, ↓ev_lstore_n_3, ↓ev_iconst_1, ↓ev_istore_5, ↓ev_iload_5, ↓ev_bipush_64, ↓ev_icmp_ge, ↓ev_istore_6, ↓ev_iload_6, ↓ev_iconst_4, ↓ev_calls_2_0_1, ↓ev_calls_2_1_1, ↓ev_calls_2_2_1, ↓ev_calls_2_3_1, ↓ev_calls_2_4_1, ↓ev_if_eq, ↓ev_callv_3_0_1, ↓ev_callv_3_1_1, ↓ev_callv_3_2_1, ↓ev_callv_3_3_1, ↓ev_callv_3_4_1, ↓ev_callv_3_5_1, ↓ev_istore_7, ↓ev_lload_n_3, ↓ev_iload_7, ↓ev_istore_8, ↓ev_iload_8, ↓ev_callv_3_0_0, ↓ev_callv_3_1_0, ↓ev_callv_3_2_0, ↓ev_callv_3_3_0, ↓ev_callv_3_4_0, ↓ev_callv_1_0_1, ↓ev_callv_1_1_1, ↓ev_callv_1_2_1, ↓ev_callv_1_3_1, ↓ev_callv_1_4_1, ↓ev_getf_0_0, ↓ev_imul, ↓ev_iadd, ↓ev_iast_m1, ↓ev_iast_m2, ↓ev_iast_m3, ↓ev_iast_m4, ↓ev_iast_m5, ↓ev_iast_m6, ↓ev_iast_o3, ↓ev_iconst_m1, ↓ev_iinc_6_1, ↓ev_goto, ↓ev_iinc_5_1, ↓ev_ret, Nat.reduceAdd]
          try simp (disch := omega) only [pk_mul, nI_add, n_lt0, n_le0, n_eq0, n_ge0, n_gt0, n_lt, n_le, n_eq, n_in, n_div, n_rem, n_rem2, n_m1, nI_clamp, bz_0, bz_1, tI_0, tI_bz, n4, n16, eq_self, Nat.reduceLT, Nat.reduceLeDiff, Nat.reduceEqDiff, Nat.reduceAdd, Nat.reduceMul, Nat.reduceDiv, Nat.reduceMod, Nat.le_refl, decide_eq_false_iff_not, Classical.not_not, true_and, and_true, false_and, and_false, not_true_eq_false, not_false_eq_true, forall_const, true_implies, false_implies, implies_true, ne_eq]
          exact ih2 (k2 + 1) h3 _ _ (by omega) o3 t3
        rw [foK] at J9
        generalize foK L Q k k2 (foF L P Q k σ) = σ3 at t3 J9
        have hdl := dt_lt σ3.1 k k2
        refine k_dataAt t3.1 (by omega) (by omega) ?_
        refine k_leastAlike t3.1 hdl (fun e he hls => ?_)
        have hle := lae_eq hls
        unfold fo1 at J9
        rw [hle] at J9
        try simp (disch := omega) only [pk_mul, nI_add, n_lt0, n_le0, n_eq0, n_ge0, n_gt0, n_lt, n_le, n_eq, n_in, n_div, n_rem, n_rem2, n_m1, nI_clamp, bz_0, bz_1, tI_0, tI_bz, n4, n16, eq_self, Nat.reduceLT, Nat.reduceLeDiff, Nat.reduceEqDiff, Nat.reduceAdd, Nat.reduceMul, Nat.reduceDiv, Nat.reduceMod, Nat.le_refl, decide_eq_false_iff_not, Classical.not_not, true_and, and_true, false_and, and_false, not_true_eq_false, not_false_eq_true, forall_const, true_implies, false_implies, implies_true, ne_eq]
        refine ⟨fun c => ?_, fun c => ?_⟩
        · rw [if_neg (by omega)] at J9
          exact J9 h3 _ _ o3 t3
        · rw [if_pos (by omega)] at J9
          refine k_addToCount t3 he (fun h4 o4 t4 => ?_)
          have J8 : ∀ (h5 : mH) (σ5 : Sg), OT h h5 → TR h5 L σ5 → addc L (dt σ3.1 k k2) (-1) σ5 = addc L (dt σ3.1 k k2) (-1) (gt L (fun S => upd S (64 + (4 * k + k2)) (nI e)) (addc L e (nI 1) σ3)) → EX (Kd sL (d + 2)) sL md_X2_foldAlike (pU p) 8 [some (.inr (.inr (.inr 2))), some (.inr (.inl (lOr P 64))), none, some (.inr (.inl (lOr Q 64))), none, some (.inl (nI k)), some (.inl (nI k2)), some (.inl (nI (dt σ3.1 k k2))), some (.inl (nI e))] [] h5 := by
            intro h5 σ5 o5 t5 he5
            refine EX.go (Kd_mono _ _) [false, true, false, true, false, false, false, false, false, true, false, false] 40 8 ?_
            dsimp only [wpc_s, wsl_t, wsl_f, gD_0, gD_s, ↓denB_n, pI_s, pG_s, pU_n, cb_X2_foldAlike_0, cb_X2_foldAlike_1, cb_X2_foldAlike_2, cb_X2_foldAlike_3, cb_X2_foldAlike_4, cb_X2_foldAlike_5, cb_X2_foldAlike_6, cb_X2_foldAlike_7, cb_X2_foldAlike_8, cb_X2_foldAlike_9, cb_X2_foldAlike_10, cb_X2_foldAlike_11, ↓ev_aload_n_0, ↓ev_getf_2_0, ↓ev_iconst_0, ↓ev_bipush_14, ↓ev_callv_3_0_2, ↓ev_callv_3_1_2, ↓ev_callv_3_2_2, ↓ev_callv_3_3_2, ↓ev_callv_3_4_2, ↓ev_lstore_n_1, ↓ev_lload_n_1, ↓ev_callv_2_0_2, ↓ev_callv_2_1_2, ↓ev_callv_2_2_2, ↓ev_callv_2_3_2, ↓ev_callv_2_4_2, ↓ev_lstore_n_3, ↓ev_iconst_1, ↓ev_istore_5, ↓ev_iload_5, ↓ev_bipush_64, ↓ev_icmp_ge, ↓ev_istore_6, ↓ev_iload_6, ↓ev_iconst_4, ↓ev_calls_2_0_1, ↓ev_calls_2_1_1, ↓ev_calls_2_2_1, ↓ev_calls_2_3_1, ↓ev_calls_2_4_1, ↓ev_if_eq, ↓ev_callv_3_0_1, ↓ev_callv_3_1_1, ↓ev_callv_3_2_1, ↓ev_callv_3_3_1, ↓ev_callv_3_4_1, ↓ev_callv_3_5_1, ↓ev_istore_7, ↓ev_lload_n_3, ↓ev_iload_7, ↓ev_istore_8, ↓ev_iload_8, ↓ev_callv_3_0_0, ↓ev_callv_3_1_0, ↓ev_callv_3_2_0, ↓ev_callv_3_3_0, ↓ev_callv_3_4_0, ↓ev_callv_1_0_1, ↓ev_callv_1_1_1, ↓ev_callv_1_2_1, ↓ev_callv_1_3_1, ↓ev_callv_1_4_1, ↓ev_getf_0_0, ↓ev_imul, ↓ev_iadd, ↓ev_iast_m1, ↓ev_iast_m2, ↓ev_iast_m3, ↓ev_iast_m4, ↓ev_iast_m5, ↓ev_iast_m6, ↓ev_iast_o3, ↓ev_iconst_m1, ↓ev_iinc_6_1, ↓ev_goto, ↓ev_iinc_5_1, ↓ev_ret, Nat.reduceAdd]
            refine k_addToCount t5 hdl (fun h6 o6 t6 => ?_)
            rw [he5] at t6
            exact J9 h6 _ _ (o5.tr o6) t6
          refine k_step t4 (fun h5 o5 t5 hn => ?_) (fun h5 o5 z0 z1 t5 => ?_)
          · exact ⟨fun _ => J8 h5 _ (o3.tr (o4.tr o5)) t5 (by rw [gt_no (f := fun S => upd S (64 + (4 * k + k2)) (nI e)) hn]), fun c2 => absurd rfl c2⟩
          · refine ⟨fun c2 => absurd c2 (by decide), fun _ => ?_⟩
            try simp (disch := omega) only [pk_mul, nI_add, n_lt0, n_le0, n_eq0, n_ge0, n_gt0, n_lt, n_le, n_eq, n_in, n_div, n_rem, n_rem2, n_m1, nI_clamp, bz_0, bz_1, tI_0, tI_bz, n4, n16, eq_self, Nat.reduceLT, Nat.reduceLeDiff, Nat.reduceEqDiff, Nat.reduceAdd, Nat.reduceMul, Nat.reduceDiv, Nat.reduceMod, Nat.le_refl, decide_eq_false_iff_not, Classical.not_not, true_and, and_true, false_and, and_false, not_true_eq_false, not_false_eq_true, forall_const, true_implies, false_implies, implies_true, ne_eq]
            refine ⟨by omega, J8 _ _ (o3.tr (o4.tr (o5.tr (OT.oi Oi.up)))) (t5.img Oi.up (t5.1.cel1 (by omega) _)) ?_⟩
            rw [gt_yes z0 z1, show k * 4 + k2 = 4 * k + k2 by omega]
/-- as OU, the limit aside -/
def OV (h h' : mH) : Prop := (∀ r, (∀ q, r ≠ .inl (2, q)) → r ≠ .inr 2 → r ≠ .inr 3 → h' r = h r) ∧ ∀ j, j < 5 → h' (.inr 2) j = h (.inr 2) j
theorem OU.ov {h h' : mH} (a : OU h h') : OV h h' := ⟨a.1, fun j hj => a.2 j (by omega)⟩
theorem OV.tr {h h1 h2 : mH} (a : OV h h1) (b : OV h1 h2) : OV h h2 := ⟨fun r p q t => (b.1 r p q t).trans (a.1 r p q t), fun j hj => (b.2 j hj).trans (a.2 j hj)⟩
theorem k_start {i : Fin 3} {S : St} {p : mH → Prop} (hC : CR h i S) (hL : L ≤ 1000000) (hp : ∀ h', OV h h' → TR h' L (S, 0, 0) → p h') : mU (Kd sL (d + 2)) 35 [.inr (.inr (.inr 2)), .inr (.inr (.inl (i, 0))), .inl (nI L)] h p := by
  refine ke_X2_start ?_
  refine EX.go (Kd_mono _ _) [false] 40 0 ?_
  dsimp only [wpc_s, wsl_t, wsl_f, gD_0, gD_s, ↓denB_n, pI_s, pG_s, pU_n, cb_X2_start_0, ↓ev_aload_n_0, ↓ev_getf_2_0, ↓ev_aload_n_1, ↓ev_callv_2_0_0, ↓ev_callv_2_1_0, ↓ev_callv_2_2_0, ↓ev_callv_2_3_0, ↓ev_callv_2_4_0, ↓ev_iload_n_2, ↓ev_putf_2_5, ↓ev_iconst_0, ↓ev_putf_2_6, ↓ev_putf_2_7, ↓ev_ret, Nat.reduceAdd]
  refine k_copyFrom hC (fun h1 o1 c1 => ?_)
  refine hp _ ⟨fun r a b c => ?_, fun j hj => ?_⟩ ⟨((c1.up2 _ _ _).up2 _ _ _).up2 _ _ _, ?_, ?_, ?_, Nat.zero_le _, hL, Nat.zero_le _⟩
  · funext k
    rw [hup_other b, hup_other b, hup_other b, o1 r a]
  · rw [hup_idx (by omega), hup_idx (by omega), hup_idx (by omega), o1.oth]
  · rw [hup_idx (by decide), hup_idx (by decide), hup_same]
  · rw [hup_idx (by decide), hup_same]
  · rw [hup_same]; rfl
theorem k_set {a b c e : Int32} {p : mH → Prop} (hp : ∀ h', (∀ r, r ≠ .inr 2 → h' r = h r) → h' (.inr 2) 1 = a → h' (.inr 2) 2 = b → h' (.inr 2) 3 = c → h' (.inr 2) 4 = e → p h') : mU (Kd sL (d + 1)) 34 [.inr (.inr (.inr 2)), .inl a, .inl b, .inl c, .inl e] h p := by
  refine ke_X2_set ?_
  refine EX.go (Kd_mono _ _) [false] 40 0 ?_
  dsimp only [wpc_s, wsl_t, wsl_f, gD_0, gD_s, ↓denB_n, pI_s, pG_s, pU_n, cb_X2_set_0, ↓ev_aload_n_0, ↓ev_iload_n_1, ↓ev_putf_2_1, ↓ev_iload_n_2, ↓ev_putf_2_2, ↓ev_iload_n_3, ↓ev_putf_2_3, ↓ev_iload_4, ↓ev_putf_2_4, ↓ev_ret, Nat.reduceAdd]
  refine hp _ (fun r hr => ?_) ?_ ?_ ?_ ?_
  · funext k
    rw [hup_other hr, hup_other hr, hup_other hr, hup_other hr]
  · rw [hup_idx (by decide), hup_idx (by decide), hup_idx (by decide), hup_same]
  · rw [hup_idx (by decide), hup_idx (by decide), hup_same]
  · rw [hup_idx (by decide), hup_same]
  · rw [hup_same]
/-- the places of a layer written as they are, one behind the other -/
def rwF (L l : Nat) : Nat → Sg → Sg
  | 0, σ => σ
  | k + 1, σ => wpl L l k (rdf (rwF L l k σ).1 6 (nI l) k) (rwF L l k σ)
theorem mn_rwF {l : Nat} (hl : l < 6) : ∀ k, k ≤ 64 → ∀ σ : Sg, mn (rwF L l k σ).1 = mn σ.1
  | 0, _, σ => rfl
  | k + 1, hk, σ => by
    unfold rwF
    rw [mn_wpl hl (by omega)]
    exact mn_rwF hl k (by omega) σ
theorem k_rewriteAll {i : Fin 3} {S : St} {l : Nat} {p : Int32 → mH → Prop} (hC : CR h i S) (hl : l < mn S) (hp : ∀ (n : Nat) (h' : mH) (τ : Sg), n ≤ 64 → OV h h' → (∀ j, j ≤ n → ¬ (rwF 1000000 l j (S, 0, 0)).2.2 = 2) → (n = 64 ∧ τ = rwF 1000000 l 64 (S, 0, 0) ∨ n < 64 ∧ τ = rwF 1000000 l (n + 1) (S, 0, 0) ∧ τ.2.2 = 2) → TR h' 1000000 τ → p (nI n) h') : mI (Kd sL (d + 5)) 43 [.inr (.inr (.inr 2)), .inr (.inr (.inl (i, 0))), .inl (nI l)] h p := by
  have hm6 := hC.2.2.2.2.2.2.1
  refine ke_X2_rewriteAll ?_
  refine EX.go (Kd_mono _ _) [false, true, false, false, false, false] 40 0 ?_
  dsimp only [wpc_s, wsl_t, wsl_f, gD_0, gD_s, ↓denB_n, pI_s, pG_s, pU_n, cb_X2_rewriteAll_0, cb_X2_rewriteAll_1, cb_X2_rewriteAll_2, cb_X2_rewriteAll_3, cb_X2_rewriteAll_4, cb_X2_rewriteAll_5, ↓ev_aload_n_0, ↓ev_aload_n_1, ↓ev_ldc_1000000, ↓ev_callv_3_0_0, ↓ev_callv_3_1_0, ↓ev_callv_3_2_0, ↓ev_callv_3_3_0, ↓ev_callv_3_4_0, ↓ev_iconst_0, ↓ev_istore_n_3, ↓ev_iload_n_3, ↓ev_bipush_64, ↓ev_icmp_ge, ↓ev_iload_n_2, ↓ev_getf_2_0, ↓ev_callv_3_0_1, ↓ev_callv_3_1_1, ↓ev_callv_3_2_1, ↓ev_callv_3_3_1, ↓ev_callv_3_4_1, ↓ev_callv_3_5_1, ↓ev_callv_4_0_0, ↓ev_callv_4_1_0, ↓ev_callv_4_2_0, ↓ev_callv_4_3_0, ↓ev_callv_4_4_0, ↓ev_getf_2_7, ↓ev_sipush_m1002, ↓ev_icmp_ne, ↓ev_iret, ↓ev_iinc_3_1, ↓ev_goto, Nat.reduceAdd]
  refine k_start hC (by decide) (fun h1 o1 t1 => ?_)
  suffices H : ∀ (f k : Nat) (h2 : mH), k + f = 64 → OV h h2 → TR h2 1000000 (rwF 1000000 l k (S, 0, 0)) → (∀ j, j ≤ k → ¬ (rwF 1000000 l j (S, 0, 0)).2.2 = 2) → EX (Kd sL (d + 4)) sL md_X2_rewriteAll (pI p) 1 [some (.inr (.inr (.inr 2))), some (.inr (.inr (.inl (i, 0)))), some (.inl (nI l)), some (.inl (nI k))] [] h2 from H 64 0 h1 rfl o1 t1 (fun j hj => by
    rw [show j = 0 by omega]
    show ¬ (0 : Nat) = 2
    decide)
  intro f
  induction f with
  | zero =>
    intro k h2 hk o t hj
    refine EX.go (Kd_mono _ _) [false, true, false, false, false, false] 40 1 ?_
    dsimp only [wpc_s, wsl_t, wsl_f, gD_0, gD_s, ↓denB_n, pI_s, pG_s, pU_n, cb_X2_rewriteAll_0, cb_X2_rewriteAll_1, cb_X2_rewriteAll_2, cb_X2_rewriteAll_3, cb_X2_rewriteAll_4, cb_X2_rewriteAll_5, ↓ev_aload_n_0, ↓ev_aload_n_1, ↓ev_ldc_1000000, ↓ev_callv_3_0_0, ↓ev_callv_3_1_0, ↓ev_callv_3_2_0, ↓ev_callv_3_3_0, ↓ev_callv_3_4_0, ↓ev_iconst_0, ↓ev_istore_n_3, ↓ev_iload_n_3, ↓ev_bipush_64, ↓ev_icmp_ge, ↓ev_iload_n_2, ↓ev_getf_2_0, ↓ev_callv_3_0_1, ↓ev_callv_3_1_1, ↓ev_callv_3_2_1, ↓ev_callv_3_3_1, ↓ev_callv_3_4_1, ↓ev_callv_3_5_1, ↓ev_callv_4_0_0, ↓ev_callv_4_1_0, ↓ev_callv_4_2_0, ↓ev_callv_4_3_0, ↓ev_callv_4_4_0, ↓ev_getf_2_7, ↓ev_sipush_m1002, ↓ev_icmp_ne, ↓ev_iret, ↓ev_iinc_3_1, ↓ev_goto, Nat.reduceAdd]
    try simp (disch := omega) only [pk_mul, nI_add, n_lt0, n_le0, n_eq0, n_ge0, n_gt0, n_lt, n_le, n_eq, n_in, n_div, n_rem, n_rem2, n_m1, nI_clamp, bz_0, bz_1, tI_0, tI_bz, n4, n16, eq_self, Nat.reduceLT, Nat.reduceLeDiff, Nat.reduceEqDiff, Nat.reduceAdd, Nat.reduceMul, Nat.reduceDiv, Nat.reduceMod, Nat.le_refl, decide_eq_false_iff_not, Classical.not_not, true_and, and_true, false_and, and_false, not_true_eq_false, not_false_eq_true, forall_const, true_implies, false_implies, implies_true, ne_eq]
    have hk4 : k = 64 := by omega
    subst hk4
    exact ⟨fun _ => hp 64 h2 _ (Nat.le_refl _) o hj (Or.inl ⟨rfl, rfl⟩) t, fun c2 => absurd (show 64 ≤ 64 by omega) c2⟩
  | succ f ih =>
    intro k h2 hk o t hj
    refine EX.go (Kd_mono _ _) [false, true, false, false, false, false] 40 1 ?_
    dsimp only [wpc_s, wsl_t, wsl_f, gD_0, gD_s, ↓denB_n, pI_s, pG_s, pU_n, cb_X2_rewriteAll_0, cb_X2_rewriteAll_1, cb_X2_rewriteAll_2, cb_X2_rewriteAll_3, cb_X2_rewriteAll_4, cb_X2_rewriteAll_5, ↓ev_aload_n_0, ↓ev_aload_n_1, ↓ev_ldc_1000000, ↓ev_callv_3_0_0, ↓ev_callv_3_1_0, ↓ev_callv_3_2_0, ↓ev_callv_3_3_0, ↓ev_callv_3_4_0, ↓ev_iconst_0, ↓ev_istore_n_3, ↓ev_iload_n_3, ↓ev_bipush_64, ↓ev_icmp_ge, ↓ev_iload_n_2, ↓ev_getf_2_0, ↓ev_callv_3_0_1, ↓ev_callv_3_1_1, ↓ev_callv_3_2_1, ↓ev_callv_3_3_1, ↓ev_callv_3_4_1, ↓ev_callv_3_5_1, ↓ev_callv_4_0_0, ↓ev_callv_4_1_0, ↓ev_callv_4_2_0, ↓ev_callv_4_3_0, ↓ev_callv_4_4_0, ↓ev_getf_2_7, ↓ev_sipush_m1002, ↓ev_icmp_ne, ↓ev_iret, ↓ev_iinc_3_1, ↓ev_goto, Nat.reduceAdd]
    try simp (disch := omega) only [pk_mul, nI_add, n_lt0, n_le0, n_eq0, n_ge0, n_gt0, n_lt, n_le, n_eq, n_in, n_div, n_rem, n_rem2, n_m1, nI_clamp, bz_0, bz_1, tI_0, tI_bz, n4, n16, eq_self, Nat.reduceLT, Nat.reduceLeDiff, Nat.reduceEqDiff, Nat.reduceAdd, Nat.reduceMul, Nat.reduceDiv, Nat.reduceMod, Nat.le_refl, decide_eq_false_iff_not, Classical.not_not, true_and, and_true, false_and, and_false, not_true_eq_false, not_false_eq_true, forall_const, true_implies, false_implies, implies_true, ne_eq]
    refine ⟨fun c2 => absurd c2 (by omega), fun _ => ?_⟩
    refine k_at t.1 (by omega) ?_
    refine k_writePlace t (by rw [mn_rwF (by omega) k (by omega)]; exact hl) (by omega) (fun h3 o3 t3 => ?_)
    have t3 : TR h3 1000000 (rwF 1000000 l (k + 1) (S, 0, 0)) := t3
    have e7 := t3.2.2.2.1
    have hk2 := t3.2.2.2.2.2.2
    rw [e7, hk_2 hk2]
    refine ⟨fun c => ?_, fun c => ?_⟩
    · exact ih (k + 1) h3 (by omega) (o.tr o3.ou.ov) t3 (fun j h9 => by
        rcases Nat.lt_or_ge j (k + 1) with q | q
        · exact hj j (by omega)
        · rw [show j = k + 1 by omega]; exact c)
    · exact hp k h3 _ (by omega) (o.tr o3.ou.ov) hj (Or.inr ⟨by omega, rfl, by simpa using c⟩) t3
end DE3
