/-! ===== the reference: like clusters folded into one ===== -/
section RFOLD
variable {sL d L B M : Nat} {h : mH} {σ : Sg} {S S0 : St} {q : mH → Prop} {p : Int32 → mH → Prop} {Q : Nat → Bool}
theorem laf_cg {S S' : St} {P P' : Nat → Bool} {dd : Nat} : ∀ f e, (∀ j, e ≤ j → j < e + f → ((P j = true ∧ alk S j dd) ↔ (P' j = true ∧ alk S' j dd))) → laf S P dd f e = laf S' P' dd f e
  | 0, _, _ => rfl
  | f + 1, e, h => by
    unfold laf
    rw [dec_iff (h e (Nat.le_refl e) (by omega)), laf_cg f (e + 1) (fun j h1 h2 => h j (by omega) (by omega))]
theorem lae_cg {S S' : St} {P P' : Nat → Bool} {dd : Nat} (h : ∀ j, 1 ≤ j → j < dd → ((P j = true ∧ alk S j dd) ↔ (P' j = true ∧ alk S' j dd))) : lae S P dd = lae S' P' dd := laf_cg _ _ (fun j h1 h2 => h j h1 (by omega))
theorem laf_min {P : Nat → Bool} {dd : Nat} : ∀ f e j, e ≤ j → j < laf S P dd f e → j < e + f → ¬ (P j = true ∧ alk S j dd)
  | 0, _, _, h1, _, h3 => absurd h3 (by omega)
  | f + 1, e, j, h1, h2, h3 => by
    unfold laf at h2
    split at h2
    · omega
    · rename_i hc
      rw [dec_t] at hc
      by_cases z : j = e
      · subst z; exact hc
      · exact laf_min f (e + 1) j (by omega) h2 (by omega)
theorem lae_min {P : Nat → Bool} {dd j : Nat} (h1 : 1 ≤ j) (h2 : j < lae S P dd) : ¬ (P j = true ∧ alk S j dd) := laf_min (dd - 1) 1 j h1 h2 (by have := lae_le S P dd; omega)
/-- what stays while like clusters are folded -/
def FI (S0 S : St) (Q : Nat → Bool) : Prop := (∀ j, 320 ≤ j → S j = S0 j) ∧ WF S ∧ (∀ c k, c < 64 → ¬ nam S0 c → k < 4 → S (64 + 4 * c + k) = S0 (64 + 4 * c + k)) ∧ (∀ t k, nam S0 t → k < 4 → dt S t k = 0 ∨ Q (dt S t k) = true) ∧ ∀ t k, nam S0 t → k < 4 → lae S0 Q (dt S0 t k) = dt S0 t k → dt S t k = dt S0 t k
def QD (S0 : St) (Q : Nat → Bool) : Prop := ∀ e, Q e = true ↔ (e ≠ 0 ∧ ∃ t k, nam S0 t ∧ k < 4 ∧ dt S0 t k = e)
theorem QD.nn (hQ : QD S0 Q) (hw : WF S0) {e : Nat} (he : Q e = true) : ¬ nam S0 e ∧ 1 ≤ e ∧ e < 64 := by
  obtain ⟨h0, t, k, ht, hk, rfl⟩ := (hQ e).mp he
  exact ⟨hw.nd ht hk, by omega, dt_lt _ _ _⟩
theorem FI.n (h : FI S0 S Q) (t : Nat) : nam S t ↔ nam S0 t := (tb_hi h.1).2.2.2.1 t
theorem FI.lk (h : FI S0 S Q) (hw : WF S0) {c e : Nat} (hc : c < 64) (hc2 : ¬ nam S0 c) (he : e < 64) (he2 : ¬ nam S0 e) : alk S c e ↔ alk S0 c e := by
  unfold alk
  constructor
  · intro z k hk
    rw [← h.2.2.1 c k hc hc2 hk, ← h.2.2.1 e k he he2 hk]
    exact z k hk
  · intro z k hk
    rw [h.2.2.1 c k hc hc2 hk, h.2.2.1 e k he he2 hk]
    exact z k hk
theorem FI.la (h : FI S0 S Q) (hw : WF S0) (hQ : QD S0 Q) {dd : Nat} (hd : dd < 64) (hn : ¬ nam S0 dd) : lae S Q dd = lae S0 Q dd := by
  refine lae_cg (fun j h1 h2 => ⟨fun z => ⟨z.1, ?_⟩, fun z => ⟨z.1, ?_⟩⟩)
  · obtain ⟨a, b, c⟩ := hQ.nn hw z.1
    exact (h.lk hw c a hd hn).mp z.2
  · obtain ⟨a, b, c⟩ := hQ.nn hw z.1
    exact (h.lk hw c a hd hn).mpr z.2
/-- the least like one, of those that were named or of those that are named now -/
theorem FI.now (h : FI S0 S Q) (hw : WF S0) (hQ : QD S0 Q) {dd : Nat} (hd : dd < 64) (hn : ¬ nam S0 dd) {Q' : Nat → Bool} (hQ' : ∀ e, 1 ≤ e → e < 64 → (Q' e = true ↔ ∃ t k, nam S t ∧ k < 4 ∧ dt S t k = e)) : lae S Q' dd = lae S Q dd := by
  have hle := lae_le S Q dd
  refine lae_eq ⟨?_, fun j h1 h2 z => ?_⟩
  · rcases Nat.lt_or_ge (lae S Q dd) dd with c | c
    · obtain ⟨p1, p2, p3⟩ := lae_p c
      refine Or.inr ⟨p3, c, ?_, p2⟩
      have hmin := fun j (h1 : 1 ≤ j) h2 => lae_min (S := S) (P := Q) (dd := dd) (j := j) h1 h2
      generalize lae S Q dd = e at c p1 p2 p3 hmin
      obtain ⟨n1, n2, n3⟩ := hQ.nn hw p1
      obtain ⟨-, t, k, ht, hk, he⟩ := (hQ e).mp p1
      have hfix : lae S0 Q e = e := by
        rcases Nat.lt_or_ge (lae S0 Q e) e with c2 | c2
        · obtain ⟨g1, g2, g3⟩ := lae_p c2
          obtain ⟨m1, m2, m3⟩ := hQ.nn hw g1
          refine absurd ⟨g1, ?_⟩ (hmin _ g3 c2)
          have := (h.lk hw m3 m1 n3 n1).mpr g2
          exact fun i hi => (this i hi).trans (p2 i hi)
        · have := lae_le S0 Q e
          omega
      rw [hQ' e p3 (by omega)]
      refine ⟨t, k, (h.n t).mpr ht, hk, ?_⟩
      have := h.2.2.2.2 t k ht hk (by rw [he]; exact hfix)
      rw [this, he]
    · exact Or.inl (by omega)
  · obtain ⟨t, k, ht, hk, he⟩ := (hQ' j h1 (by omega)).mp z.1
    rcases h.2.2.2.1 t k ((h.n t).mp ht) hk with y | y
    · omega
    · rw [he] at y
      exact lae_min h1 h2 ⟨y, z.2⟩
theorem fi_cnt {S' : St} (h : FI S0 S Q) (hc : ∀ j, 64 ≤ j → S' j = S j) : FI S0 S' Q := by
  obtain ⟨h1, h2, h3, h4, h5⟩ := h
  have e := (nam_cg hc).2
  exact ⟨fun j hj => by rw [hc j (by omega)]; exact h1 j hj, wf_cnt h2 hc, fun c k a b x => by rw [hc _ (by omega)]; exact h3 c k a b x, fun t k a b => by rw [e]; exact h4 t k a b, fun t k a b x => by rw [e]; exact h5 t k a b x⟩
theorem fo1_fi {t k : Nat} (hw : WF S0) (hQ : QD S0 Q) (h : FI S0 σ.1 Q) (ht : nam S0 t) (hk : k < 4) : FI S0 (fo1 L Q t k σ).1 Q := by
  unfold fo1
  split
  · rename_i hlt
    have hd := dt_lt σ.1 t k
    obtain ⟨p1, p2, p3⟩ := lae_p hlt
    have hlt' := hlt
    have ht2 := nam_lt ht
    have hnn := (not_congr (h.n _)).mp (h.2.1.nd ((h.n t).mpr ht) hk)
    rw [h.la hw hQ hd hnn] at hlt'
    generalize hdd : dt σ.1 t k = dd at hlt p1 p2 p3 hd hlt' hnn ⊢
    generalize lae σ.1 Q dd = e at hlt p1 p2 p3 ⊢
    obtain ⟨m1, m2, m3⟩ := hQ.nn hw p1
    have f1 : ∀ j, 64 ≤ j → (addc L e (nI 1) σ).1 j = σ.1 j := fun j hj => addc_hi (by omega) hj σ
    have h1 := fi_cnt h f1
    have hdt : dt (addc L e (nI 1) σ).1 t k = dd := by rw [(nam_cg f1).2]; exact hdd
    generalize addc L e (nI 1) σ = τ at h1 hdt
    refine fi_cnt (S := (gt L (fun S => upd S (64 + (4 * t + k)) (nI e)) τ).1) ?_ (fun j hj => addc_hi hd hj _)
    by_cases z : τ.2.2 = 0 ∧ τ.2.1 < L
    · rw [gt_yes z.1 z.2]
      obtain ⟨g1, g2, g3, g4, g5⟩ := id h1
      have ed := dt_upd (S := τ.1) (t := t) (j := k) (m := e) ht2.1 m3 hk
      refine ⟨fun j hj => by dsimp only; rw [pk_un (by omega)]; exact g1 j hj, wf_cell g2 ht2.1 ht2.2 hk m3 (fun y => m1 ((h1.n e).mp y)), fun c x a b y => ?_, fun t' k' a b => ?_, fun t' k' a b x => ?_⟩
      · have : c ≠ t := fun w => b (by rw [w]; exact ht)
        dsimp only
        rw [pk_un (by omega)]
        exact g3 c x a b y
      · dsimp only
        rw [ed t' k' b]
        split
        · exact Or.inr p1
        · exact g4 t' k' a b
      · dsimp only
        rw [ed t' k' b]
        split
        · rename_i w
          obtain ⟨rfl, rfl⟩ := w
          have := g5 t' k' a b x
          rw [hdt] at this
          rw [← this] at x
          omega
        · exact g5 t' k' a b x
    · rw [gt_no z]
      have : (gt L (fun S => S) τ).1 = τ.1 := by
        funext j
        exact gt_fr (fun S => rfl) τ
      rw [this]
      exact h1
  · exact h
theorem r_likeOf {dd : Nat} (hS : RS h S) (hw : WF S) (h1 : 1 ≤ dd) (h2 : dd < 64) (hp : ∀ f g : Nat → Int32, p (nI (lae S (fun e => decide (0 < nmc S e)) dd)) (h23 h f g)) : mI (Kd sL (d + 4)) 143 [.inr (.inr (.inr 7)), .inl (nI dd)] h p := by
  refine ke_X4_likeOf ?_
  refine EX.go (Kd_mono _ _) [false, true, false, false, false, false] 40 0 ?_
  dsimp only [wpc_s, wsl_t, wsl_f, gD_0, gD_s, ↓denB_n, pI_s, pG_s, pU_n, cb_X4_likeOf_0, cb_X4_likeOf_1, cb_X4_likeOf_2, cb_X4_likeOf_3, cb_X4_likeOf_4, cb_X4_likeOf_5, ↓ev_aload_n_0, ↓ev_callv_1_0_0, ↓ev_callv_1_1_0, ↓ev_callv_1_2_0, ↓ev_callv_1_3_0, ↓ev_callv_1_4_0, ↓ev_iconst_1, ↓ev_istore_n_2, ↓ev_iload_n_2, ↓ev_iload_n_1, ↓ev_icmp_ge, ↓ev_getf_4_6, ↓ev_iald_o8, ↓ev_iald_o9, ↓ev_iald_o10, ↓ev_iald_o11, ↓ev_iald_o12, ↓ev_iald_o13, ↓ev_iald_o14, ↓ev_iald_o15, ↓ev_iald_o16, ↓ev_if_le, ↓ev_callv_3_0_1, ↓ev_callv_3_1_1, ↓ev_callv_3_2_1, ↓ev_callv_3_3_1, ↓ev_callv_3_4_1, ↓ev_callv_3_5_1, ↓ev_if_ne, ↓ev_iinc_2_1, ↓ev_goto, ↓ev_iret, Nat.reduceAdd]
  refine r_reckons hS hw (fun F G hF hG => ?_)
  have hp := hp F G
  suffices H : ∀ (f k : Nat), k + f = dd → 1 ≤ k → p (nI (laf S (fun e => decide (0 < nmc S e)) dd f k)) (h23 h F G) → EX (Kd sL (d + 3)) sL md_X4_likeOf (pI p) 1 [some (.inr (.inr (.inr 7))), some (.inl (nI dd)), some (.inl (nI k))] [] (h23 h F G) from H (dd - 1) 1 (by omega) (by omega) hp
  intro f
  induction f with
  | zero =>
    intro k hk h1 hp
    refine EX.go (Kd_mono _ _) [false, true, false, false, false, false] 40 1 ?_
    dsimp only [wpc_s, wsl_t, wsl_f, gD_0, gD_s, ↓denB_n, pI_s, pG_s, pU_n, cb_X4_likeOf_0, cb_X4_likeOf_1, cb_X4_likeOf_2, cb_X4_likeOf_3, cb_X4_likeOf_4, cb_X4_likeOf_5, ↓ev_aload_n_0, ↓ev_callv_1_0_0, ↓ev_callv_1_1_0, ↓ev_callv_1_2_0, ↓ev_callv_1_3_0, ↓ev_callv_1_4_0, ↓ev_iconst_1, ↓ev_istore_n_2, ↓ev_iload_n_2, ↓ev_iload_n_1, ↓ev_icmp_ge, ↓ev_getf_4_6, ↓ev_iald_o8, ↓ev_iald_o9, ↓ev_iald_o10, ↓ev_iald_o11, ↓ev_iald_o12, ↓ev_iald_o13, ↓ev_iald_o14, ↓ev_iald_o15, ↓ev_iald_o16, ↓ev_if_le, ↓ev_callv_3_0_1, ↓ev_callv_3_1_1, ↓ev_callv_3_2_1, ↓ev_callv_3_3_1, ↓ev_callv_3_4_1, ↓ev_callv_3_5_1, ↓ev_if_ne, ↓ev_iinc_2_1, ↓ev_goto, ↓ev_iret, Nat.reduceAdd]
    try simp (disch := omega) only [pk_mul, nI_add, n_lt0, n_le0, n_eq0, n_ge0, n_gt0, n_lt, n_le, n_eq, n_in, n_div, n_rem, n_rem2, n_m1, nI_clamp, bz_0, bz_1, tI_0, tI_bz, n4, n16, eq_self, Nat.reduceLT, Nat.reduceLeDiff, Nat.reduceEqDiff, Nat.reduceAdd, Nat.reduceMul, Nat.reduceDiv, Nat.reduceMod, Nat.le_refl, decide_eq_false_iff_not, Classical.not_not, true_and, and_true, false_and, and_false, not_true_eq_false, not_false_eq_true, forall_const, true_implies, false_implies, implies_true, ne_eq]
    refine ⟨fun _ => ?_, fun c => absurd (show dd ≤ k by omega) c⟩
    rw [show k = dd by omega]
    exact hp
  | succ f ih =>
    intro k hk h1 hp
    refine EX.go (Kd_mono _ _) [false, true, false, false, false, false] 40 1 ?_
    dsimp only [wpc_s, wsl_t, wsl_f, gD_0, gD_s, ↓denB_n, pI_s, pG_s, pU_n, cb_X4_likeOf_0, cb_X4_likeOf_1, cb_X4_likeOf_2, cb_X4_likeOf_3, cb_X4_likeOf_4, cb_X4_likeOf_5, ↓ev_aload_n_0, ↓ev_callv_1_0_0, ↓ev_callv_1_1_0, ↓ev_callv_1_2_0, ↓ev_callv_1_3_0, ↓ev_callv_1_4_0, ↓ev_iconst_1, ↓ev_istore_n_2, ↓ev_iload_n_2, ↓ev_iload_n_1, ↓ev_icmp_ge, ↓ev_getf_4_6, ↓ev_iald_o8, ↓ev_iald_o9, ↓ev_iald_o10, ↓ev_iald_o11, ↓ev_iald_o12, ↓ev_iald_o13, ↓ev_iald_o14, ↓ev_iald_o15, ↓ev_iald_o16, ↓ev_if_le, ↓ev_callv_3_0_1, ↓ev_callv_3_1_1, ↓ev_callv_3_2_1, ↓ev_callv_3_3_1, ↓ev_callv_3_4_1, ↓ev_callv_3_5_1, ↓ev_if_ne, ↓ev_iinc_2_1, ↓ev_goto, ↓ev_iret, Nat.reduceAdd]
    have e := hG k h1 (by omega)
    have hle := nmc_le S k
    try simp (disch := omega) only [pk_mul, nI_add, n_lt0, n_le0, n_eq0, n_ge0, n_gt0, n_lt, n_le, n_eq, n_in, n_div, n_rem, n_rem2, n_m1, nI_clamp, bz_0, bz_1, tI_0, tI_bz, n4, n16, eq_self, Nat.reduceLT, Nat.reduceLeDiff, Nat.reduceEqDiff, Nat.reduceAdd, Nat.reduceMul, Nat.reduceDiv, Nat.reduceMod, Nat.le_refl, decide_eq_false_iff_not, Classical.not_not, true_and, and_true, false_and, and_false, not_true_eq_false, not_false_eq_true, forall_const, true_implies, false_implies, implies_true, ne_eq, a_13, e]
    unfold laf at hp
    refine ⟨fun c => absurd c (by omega), fun _ => ⟨by omega, fun c => ?_, fun c => ?_⟩⟩
    · rw [if_neg (by rw [dec_t]; exact fun z => absurd (of_decide_eq_true z.1) (by omega))] at hp
      exact ih (k + 1) (by omega) (by omega) hp
    · refine r_areAlike hS.a (by omega) (by omega) ?_
      try simp (disch := omega) only [pk_mul, nI_add, n_lt0, n_le0, n_eq0, n_ge0, n_gt0, n_lt, n_le, n_eq, n_in, n_div, n_rem, n_rem2, n_m1, nI_clamp, bz_0, bz_1, tI_0, tI_bz, n4, n16, eq_self, Nat.reduceLT, Nat.reduceLeDiff, Nat.reduceEqDiff, Nat.reduceAdd, Nat.reduceMul, Nat.reduceDiv, Nat.reduceMod, Nat.le_refl, decide_eq_false_iff_not, Classical.not_not, true_and, and_true, false_and, and_false, not_true_eq_false, not_false_eq_true, forall_const, true_implies, false_implies, implies_true, ne_eq]
      refine ⟨fun c2 => ?_, fun c2 => ?_⟩
      · have c3 : alk S k dd := Classical.not_not.mp (fun z => c2 (dec_f.mpr z))
        rw [if_pos (by rw [dec_t]; exact ⟨decide_eq_true (by omega), c3⟩)] at hp
        exact hp
      · rw [dec_f] at c2
        rw [if_neg (by rw [dec_t]; exact fun z => c2 z.2)] at hp
        exact ih (k + 1) (by omega) (by omega) hp
theorem nmc_pos {e : Nat} (h1 : 1 ≤ e) : 0 < nmc S e ↔ ∃ t k, nam S t ∧ k < 4 ∧ dt S t k = e := by
  constructor
  · intro h
    apply Classical.byContradiction
    intro hn
    have h0 : nmc S e = 0 := by
      unfold nmc
      have : fb_sm (fun t => if dec (isT S 0 14 t) then cn4 S t e else 0) 64 = fb_sm (fun _ => 0) 64 := fb_sm_cong (fun t _ => by
        split
        · rename_i ht
          rw [dec_t] at ht
          unfold cn4
          have : fb_sm (fun k => icn (dt S t k) e) 4 = fb_sm (fun _ => 0) 4 := fb_sm_cong (fun k hk => icn_n (fun z => hn ⟨t, k, ht, hk, z⟩))
          rw [this, fb_sm_const]
        · rfl)
      rw [this, fb_sm_const]
    omega
  · rintro ⟨t, k, ht, hk, rfl⟩
    unfold nmc
    have ht2 := nam_lt ht
    have a := fb_sm_ge (f := fun t' => if dec (isT S 0 14 t') then cn4 S t' (dt S t k) else 0) ht2.2
    rw [show dec (isT S 0 14 t) = true by rw [dec_t]; exact ht, if_pos rfl] at a
    have b := fb_sm_ge (f := fun k' => icn (dt S t k') (dt S t k)) hk
    rw [icn_s] at b
    have c : 1 ≤ cn4 S t (dt S t k) := b
    omega
theorem r_folds (hR : RR h L σ) (hw : WF σ.1) (hp : ∀ h', OD h h' → RR h' L (fol L σ) → q h') : mU (Kd sL (d + 5)) 144 [.inr (.inr (.inr 7))] h q := by
  refine ke_X4_folds ?_
  refine EX.go (Kd_mono _ _) [false, true, false, false, false, true, false, false, false, false, false, false, false, false, false] 40 0 ?_
  dsimp only [wpc_s, wsl_t, wsl_f, gD_0, gD_s, ↓denB_n, pI_s, pG_s, pU_n, cb_X4_folds_0, cb_X4_folds_1, cb_X4_folds_2, cb_X4_folds_3, cb_X4_folds_4, cb_X4_folds_5, cb_X4_folds_6, cb_X4_folds_7, cb_X4_folds_8, cb_X4_folds_9, cb_X4_folds_10, cb_X4_folds_11, cb_X4_folds_12, cb_X4_folds_13, cb_X4_folds_14, ↓ev_iconst_1, ↓ev_istore_n_1, ↓ev_iload_n_1, ↓ev_bipush_64, ↓ev_icmp_ge, ↓ev_aload_n_0, ↓ev_callv_2_0_1, ↓ev_callv_2_1_1, ↓ev_callv_2_2_1, ↓ev_callv_2_3_1, ↓ev_callv_2_4_1, ↓ev_if_ne, ↓ev_goto, ↓ev_iconst_0, ↓ev_istore_n_2, ↓ev_iload_n_2, ↓ev_iconst_4, ↓ev_getf_4_0, ↓ev_imul, ↓ev_iadd, ↓ev_iald_o8, ↓ev_iald_o9, ↓ev_iald_o10, ↓ev_iald_o11, ↓ev_iald_o12, ↓ev_iald_o13, ↓ev_iald_o14, ↓ev_iald_o15, ↓ev_iald_o16, ↓ev_istore_n_3, ↓ev_iload_n_3, ↓ev_istore_4, ↓ev_iload_4, ↓ev_icmp_ne, ↓ev_callv_3_0_0, ↓ev_callv_3_1_0, ↓ev_callv_3_2_0, ↓ev_callv_3_3_0, ↓ev_callv_3_4_0, ↓ev_iconst_m1, ↓ev_iinc_2_1, ↓ev_iinc_1_1, ↓ev_ret, Nat.reduceAdd]
  unfold fol at hp
  have hPd : ∀ t, (dec (isT σ.1 0 14 t) = true) = nam σ.1 t := fun t => dec_t
  have hQd : QD σ.1 (fun c => dec (isD σ.1 (fun t => dec (isT σ.1 0 14 t)) c)) := fun e => by
    dsimp only
    rw [dec_t]
    unfold isD
    constructor
    · rintro ⟨a, t, k, b, c, x, y, z⟩
      exact ⟨a, t, k, by rw [← hPd]; exact y, x, z⟩
    · rintro ⟨a, t, k, b, c, x⟩
      have := nam_lt b
      exact ⟨a, t, k, this.1, this.2, c, by rw [hPd]; exact b, x⟩
  have hF0 : FI σ.1 σ.1 (fun c => dec (isD σ.1 (fun t => dec (isT σ.1 0 14 t)) c)) := by
    refine ⟨fun _ _ => rfl, hw, fun _ _ _ _ _ => rfl, fun t k ht hk => ?_, fun _ _ _ _ _ => rfl⟩
    rcases Nat.eq_zero_or_pos (dt σ.1 t k) with z | z
    · exact Or.inl z
    · exact Or.inr ((hQd _).mpr ⟨by omega, t, k, ht, hk, rfl⟩)
  generalize hQe : (fun c => dec (isD σ.1 (fun t => dec (isT σ.1 0 14 t)) c)) = Q at hp hQd hF0
  generalize hPe : (fun t => dec (isT σ.1 0 14 t)) = P at hp
  have hPd : ∀ t, (P t = true) = nam σ.1 t := fun t => by rw [← hPe]; exact dec_t
  suffices H : ∀ (f k : Nat) (h2 : mH) (o2 o3 o4 : Option mV), k + f = 64 → 1 ≤ k → OD h h2 → RR h2 L (foF L P Q k σ) → FI σ.1 (foF L P Q k σ).1 Q → EX (Kd sL (d + 4)) sL md_X4_folds (pU q) 1 [some (.inr (.inr (.inr 7))), some (.inl (nI k)), o2, o3, o4] [] h2 by
    have e : foF L P Q 1 σ = σ := by
      have : ¬ P 0 = true := by rw [hPd]; exact nam_0
      show (if P 0 = true then _ else _) = σ
      rw [if_neg this]
      rfl
    exact H 63 1 h _ _ _ rfl (Nat.le_refl 1) OD.rf (by rw [e]; exact hR) (by rw [e]; exact hF0)
  intro f
  induction f with
  | zero =>
    intro k h2 x2 x3 x4 hk h1 o2 t2 f2
    refine EX.go (Kd_mono _ _) [false, true, false, false, false, true, false, false, false, false, false, false, false, false, false] 40 1 ?_
    dsimp only [wpc_s, wsl_t, wsl_f, gD_0, gD_s, ↓denB_n, pI_s, pG_s, pU_n, cb_X4_folds_0, cb_X4_folds_1, cb_X4_folds_2, cb_X4_folds_3, cb_X4_folds_4, cb_X4_folds_5, cb_X4_folds_6, cb_X4_folds_7, cb_X4_folds_8, cb_X4_folds_9, cb_X4_folds_10, cb_X4_folds_11, cb_X4_folds_12, cb_X4_folds_13, cb_X4_folds_14, ↓ev_iconst_1, ↓ev_istore_n_1, ↓ev_iload_n_1, ↓ev_bipush_64, ↓ev_icmp_ge, ↓ev_aload_n_0, ↓ev_callv_2_0_1, ↓ev_callv_2_1_1, ↓ev_callv_2_2_1, ↓ev_callv_2_3_1, ↓ev_callv_2_4_1, ↓ev_if_ne, ↓ev_goto, ↓ev_iconst_0, ↓ev_istore_n_2, ↓ev_iload_n_2, ↓ev_iconst_4, ↓ev_getf_4_0, ↓ev_imul, ↓ev_iadd, ↓ev_iald_o8, ↓ev_iald_o9, ↓ev_iald_o10, ↓ev_iald_o11, ↓ev_iald_o12, ↓ev_iald_o13, ↓ev_iald_o14, ↓ev_iald_o15, ↓ev_iald_o16, ↓ev_istore_n_3, ↓ev_iload_n_3, ↓ev_istore_4, ↓ev_iload_4, ↓ev_icmp_ne, ↓ev_callv_3_0_0, ↓ev_callv_3_1_0, ↓ev_callv_3_2_0, ↓ev_callv_3_3_0, ↓ev_callv_3_4_0, ↓ev_iconst_m1, ↓ev_iinc_2_1, ↓ev_iinc_1_1, ↓ev_ret, Nat.reduceAdd]
    try simp (disch := omega) only [pk_mul, nI_add, n_lt0, n_le0, n_eq0, n_ge0, n_gt0, n_lt, n_le, n_eq, n_in, n_div, n_rem, n_rem2, n_m1, nI_clamp, bz_0, bz_1, tI_0, tI_bz, n4, n16, eq_self, Nat.reduceLT, Nat.reduceLeDiff, Nat.reduceEqDiff, Nat.reduceAdd, Nat.reduceMul, Nat.reduceDiv, Nat.reduceMod, Nat.le_refl, decide_eq_false_iff_not, Classical.not_not, true_and, and_true, false_and, and_false, not_true_eq_false, not_false_eq_true, forall_const, true_implies, false_implies, implies_true, ne_eq]
    rw [show k = 64 by omega] at t2
    exact ⟨fun _ => hp h2 o2 t2, fun c => absurd (show 64 ≤ k by omega) c⟩
  | succ f ih =>
    intro k h2 x2 x3 x4 hk h1 o2 t2 f2
    refine EX.go (Kd_mono _ _) [false, true, false, false, false, true, false, false, false, false, false, false, false, true, false] 40 1 ?_
    dsimp only [wpc_s, wsl_t, wsl_f, gD_0, gD_s, ↓denB_n, pI_s, pG_s, pU_n, cb_X4_folds_0, cb_X4_folds_1, cb_X4_folds_2, cb_X4_folds_3, cb_X4_folds_4, cb_X4_folds_5, cb_X4_folds_6, cb_X4_folds_7, cb_X4_folds_8, cb_X4_folds_9, cb_X4_folds_10, cb_X4_folds_11, cb_X4_folds_12, cb_X4_folds_13, cb_X4_folds_14, ↓ev_iconst_1, ↓ev_istore_n_1, ↓ev_iload_n_1, ↓ev_bipush_64, ↓ev_icmp_ge, ↓ev_aload_n_0, ↓ev_callv_2_0_1, ↓ev_callv_2_1_1, ↓ev_callv_2_2_1, ↓ev_callv_2_3_1, ↓ev_callv_2_4_1, ↓ev_if_ne, ↓ev_goto, ↓ev_iconst_0, ↓ev_istore_n_2, ↓ev_iload_n_2, ↓ev_iconst_4, ↓ev_getf_4_0, ↓ev_imul, ↓ev_iadd, ↓ev_iald_o8, ↓ev_iald_o9, ↓ev_iald_o10, ↓ev_iald_o11, ↓ev_iald_o12, ↓ev_iald_o13, ↓ev_iald_o14, ↓ev_iald_o15, ↓ev_iald_o16, ↓ev_istore_n_3, ↓ev_iload_n_3, ↓ev_istore_4, ↓ev_iload_4, ↓ev_icmp_ne, ↓ev_callv_3_0_0, ↓ev_callv_3_1_0, ↓ev_callv_3_2_0, ↓ev_callv_3_3_0, ↓ev_callv_3_4_0, ↓ev_iconst_m1, ↓ev_iinc_2_1, ↓ev_iinc_1_1, ↓ev_ret, Nat.reduceAdd]
    try simp (disch := omega) only [pk_mul, nI_add, n_lt0, n_le0, n_eq0, n_ge0, n_gt0, n_lt, n_le, n_eq, n_in, n_div, n_rem, n_rem2, n_m1, nI_clamp, bz_0, bz_1, tI_0, tI_bz, n4, n16, eq_self, Nat.reduceLT, Nat.reduceLeDiff, Nat.reduceEqDiff, Nat.reduceAdd, Nat.reduceMul, Nat.reduceDiv, Nat.reduceMod, Nat.le_refl, decide_eq_false_iff_not, Classical.not_not, true_and, and_true, false_and, and_false, not_true_eq_false, not_false_eq_true, forall_const, true_implies, false_implies, implies_true, ne_eq]
    refine ⟨fun c => absurd c (by omega), fun _ => ?_⟩
    refine r_isTable t2.1 f2.2.1 h1 (by omega) ?_
    have J13 : ∀ (h3 : mH) (x2 x3 x4 : Option mV), OD h h3 → RR h3 L (foF L P Q (k + 1) σ) → FI σ.1 (foF L P Q (k + 1) σ).1 Q → EX (Kd sL (d + 4)) sL md_X4_folds (pU q) 13 [some (.inr (.inr (.inr 7))), some (.inl (nI k)), x2, x3, x4] [] h3 := by
      intro h3 x2 x3 x4 o3 t3 f3
      refine EX.go (Kd_mono _ _) [false, true, false, false, false, true, false, false, false, false, false, false, false, false, false] 40 13 ?_
      dsimp only [wpc_s, wsl_t, wsl_f, gD_0, gD_s, ↓denB_n, pI_s, pG_s, pU_n, cb_X4_folds_0, cb_X4_folds_1, cb_X4_folds_2, cb_X4_folds_3, cb_X4_folds_4, cb_X4_folds_5, cb_X4_folds_6, cb_X4_folds_7, cb_X4_folds_8, cb_X4_folds_9, cb_X4_folds_10, cb_X4_folds_11, cb_X4_folds_12, cb_X4_folds_13, cb_X4_folds_14, ↓ev_iconst_1, ↓ev_istore_n_1, ↓ev_iload_n_1, ↓ev_bipush_64, ↓ev_icmp_ge, ↓ev_aload_n_0, ↓ev_callv_2_0_1, ↓ev_callv_2_1_1, ↓ev_callv_2_2_1, ↓ev_callv_2_3_1, ↓ev_callv_2_4_1, ↓ev_if_ne, ↓ev_goto, ↓ev_iconst_0, ↓ev_istore_n_2, ↓ev_iload_n_2, ↓ev_iconst_4, ↓ev_getf_4_0, ↓ev_imul, ↓ev_iadd, ↓ev_iald_o8, ↓ev_iald_o9, ↓ev_iald_o10, ↓ev_iald_o11, ↓ev_iald_o12, ↓ev_iald_o13, ↓ev_iald_o14, ↓ev_iald_o15, ↓ev_iald_o16, ↓ev_istore_n_3, ↓ev_iload_n_3, ↓ev_istore_4, ↓ev_iload_4, ↓ev_icmp_ne, ↓ev_callv_3_0_0, ↓ev_callv_3_1_0, ↓ev_callv_3_2_0, ↓ev_callv_3_3_0, ↓ev_callv_3_4_0, ↓ev_iconst_m1, ↓ev_iinc_2_1, ↓ev_iinc_1_1, ↓ev_ret, Nat.reduceAdd]
      try simp (disch := omega) only [pk_mul, nI_add, n_lt0, n_le0, n_eq0, n_ge0, n_gt0, n_lt, n_le, n_eq, n_in, n_div, n_rem, n_rem2, n_m1, nI_clamp, bz_0, bz_1, tI_0, tI_bz, n4, n16, eq_self, Nat.reduceLT, Nat.reduceLeDiff, Nat.reduceEqDiff, Nat.reduceAdd, Nat.reduceMul, Nat.reduceDiv, Nat.reduceMod, Nat.le_refl, decide_eq_false_iff_not, Classical.not_not, true_and, and_true, false_and, and_false, not_true_eq_false, not_false_eq_true, forall_const, true_implies, false_implies, implies_true, ne_eq]
      exact ih (k + 1) h3 _ _ _ (by omega) (by omega) o3 t3 f3
    rw [foF] at J13
    try simp (disch := omega) only [pk_mul, nI_add, n_lt0, n_le0, n_eq0, n_ge0, n_gt0, n_lt, n_le, n_eq, n_in, n_div, n_rem, n_rem2, n_m1, nI_clamp, bz_0, bz_1, tI_0, tI_bz, n4, n16, eq_self, Nat.reduceLT, Nat.reduceLeDiff, Nat.reduceEqDiff, Nat.reduceAdd, Nat.reduceMul, Nat.reduceDiv, Nat.reduceMod, Nat.le_refl, decide_eq_false_iff_not, Classical.not_not, true_and, and_true, false_and, and_false, not_true_eq_false, not_false_eq_true, forall_const, true_implies, false_implies, implies_true, ne_eq]
    refine ⟨fun c => ?_, fun c => ?_⟩
    · have hnk : nam σ.1 k := (f2.n k).mp (Classical.not_not.mp (fun z => c (dec_f.mpr z)))
      rw [if_pos (by rw [hPd]; exact hnk)] at J13
      generalize foF L P Q k σ = τ at t2 f2 J13
      clear c
      suffices H2 : ∀ (f2 k2 : Nat) (h3 : mH) (x3 x4 : Option mV), k2 + f2 = 4 → OD h h3 → RR h3 L (foK L Q k k2 τ) → FI σ.1 (foK L Q k k2 τ).1 Q → EX (Kd sL (d + 4)) sL md_X4_folds (pU q) 5 [some (.inr (.inr (.inr 7))), some (.inl (nI k)), some (.inl (nI k2)), x3, x4] [] h3 from H2 4 0 h2 _ _ rfl o2 t2 f2
      intro f2
      induction f2 with
      | zero =>
        intro k2 h3 x3 x4 hk2 o3 t3 f3
        refine EX.go (Kd_mono _ _) [false, true, false, false, false, true, false, false, false, false, false, false, false, true, false] 40 5 ?_
        dsimp only [wpc_s, wsl_t, wsl_f, gD_0, gD_s, ↓denB_n, pI_s, pG_s, pU_n, cb_X4_folds_0, cb_X4_folds_1, cb_X4_folds_2, cb_X4_folds_3, cb_X4_folds_4, cb_X4_folds_5, cb_X4_folds_6, cb_X4_folds_7, cb_X4_folds_8, cb_X4_folds_9, cb_X4_folds_10, cb_X4_folds_11, cb_X4_folds_12, cb_X4_folds_13, cb_X4_folds_14, ↓ev_iconst_1, ↓ev_istore_n_1, ↓ev_iload_n_1, ↓ev_bipush_64, ↓ev_icmp_ge, ↓ev_aload_n_0, ↓ev_callv_2_0_1, ↓ev_callv_2_1_1, ↓ev_callv_2_2_1, ↓ev_callv_2_3_1, ↓ev_callv_2_4_1, ↓ev_if_ne, ↓ev_goto, ↓ev_iconst_0, ↓ev_istore_n_2, ↓ev_iload_n_2, ↓ev_iconst_4, ↓ev_getf_4_0, ↓ev_imul, ↓ev_iadd, ↓ev_iald_o8, ↓ev_iald_o9, ↓ev_iald_o10, ↓ev_iald_o11, ↓ev_iald_o12, ↓ev_iald_o13, ↓ev_iald_o14, ↓ev_iald_o15, ↓ev_iald_o16, ↓ev_istore_n_3, ↓ev_iload_n_3, ↓ev_istore_4, ↓ev_iload_4, ↓ev_icmp_ne, ↓ev_callv_3_0_0, ↓ev_callv_3_1_0, ↓ev_callv_3_2_0, ↓ev_callv_3_3_0, ↓ev_callv_3_4_0, ↓ev_iconst_m1, ↓ev_iinc_2_1, ↓ev_iinc_1_1, ↓ev_ret, Nat.reduceAdd]
        try simp (disch := omega) only [pk_mul, nI_add, n_lt0, n_le0, n_eq0, n_ge0, n_gt0, n_lt, n_le, n_eq, n_in, n_div, n_rem, n_rem2, n_m1, nI_clamp, bz_0, bz_1, tI_0, tI_bz, n4, n16, eq_self, Nat.reduceLT, Nat.reduceLeDiff, Nat.reduceEqDiff, Nat.reduceAdd, Nat.reduceMul, Nat.reduceDiv, Nat.reduceMod, Nat.le_refl, decide_eq_false_iff_not, Classical.not_not, true_and, and_true, false_and, and_false, not_true_eq_false, not_false_eq_true, forall_const, true_implies, false_implies, implies_true, ne_eq]
        rw [show k2 = 4 by omega] at t3 f3
        exact ⟨fun _ => J13 h3 _ _ _ o3 t3 f3, fun c => absurd (show 4 ≤ k2 by omega) c⟩
      | succ f2 ih2 =>
        intro k2 h3 x3 x4 hk2 o3 t3 f3
        have f4 := fo1_fi (L := L) (t := k) (k := k2) hw hQd f3 hnk (by omega)
        have ih3 := fun h4 x3 x4 o4 t4 => ih2 (k2 + 1) h4 x3 x4 (by omega) o4 t4 f4
        rw [foK] at ih3
        clear ih2 f4
        have hnk3 := (f3.n k).mpr hnk
        generalize foK L Q k k2 τ = τ3 at t3 f3 ih3 hnk3
        have hdl := dt_lt τ3.1 k k2
        have hnn := (not_congr (f3.n _)).mp (f3.2.1.nd hnk3 (show k2 < 4 by omega))
        have e : h3 (.inr 8) (64 + 4 * k + k2) = nI (dt τ3.1 k k2) := by rw [t3.1 _ (by omega), f3.2.1.cd (Or.inr hnk3) (by omega)]
        have enow := f3.now hw hQd hdl hnn (Q' := fun e => decide (0 < nmc τ3.1 e)) (fun e h1 h2 => by rw [decide_eq_true_iff]; exact nmc_pos h1)
        have hll := lae_le τ3.1 Q (dt τ3.1 k k2)
        unfold fo1 at ih3
        refine EX.go (Kd_mono _ _) [false, true, false, false, false, true, false, false, false, false, false, false, true, true, false] 40 5 ?_
        dsimp only [wpc_s, wsl_t, wsl_f, gD_0, gD_s, ↓denB_n, pI_s, pG_s, pU_n, cb_X4_folds_0, cb_X4_folds_1, cb_X4_folds_2, cb_X4_folds_3, cb_X4_folds_4, cb_X4_folds_5, cb_X4_folds_6, cb_X4_folds_7, cb_X4_folds_8, cb_X4_folds_9, cb_X4_folds_10, cb_X4_folds_11, cb_X4_folds_12, cb_X4_folds_13, cb_X4_folds_14, ↓ev_iconst_1, ↓ev_istore_n_1, ↓ev_iload_n_1, ↓ev_bipush_64, ↓ev_icmp_ge, ↓ev_aload_n_0, ↓ev_callv_2_0_1, ↓ev_callv_2_1_1, ↓ev_callv_2_2_1, ↓ev_callv_2_3_1, ↓ev_callv_2_4_1, ↓ev_if_ne, ↓ev_goto, ↓ev_iconst_0, ↓ev_istore_n_2, ↓ev_iload_n_2, ↓ev_iconst_4, ↓ev_getf_4_0, ↓ev_imul, ↓ev_iadd, ↓ev_iald_o8, ↓ev_iald_o9, ↓ev_iald_o10, ↓ev_iald_o11, ↓ev_iald_o12, ↓ev_iald_o13, ↓ev_iald_o14, ↓ev_iald_o15, ↓ev_iald_o16, ↓ev_istore_n_3, ↓ev_iload_n_3, ↓ev_istore_4, ↓ev_iload_4, ↓ev_icmp_ne, ↓ev_callv_3_0_0, ↓ev_callv_3_1_0, ↓ev_callv_3_2_0, ↓ev_callv_3_3_0, ↓ev_callv_3_4_0, ↓ev_iconst_m1, ↓ev_iinc_2_1, ↓ev_iinc_1_1, ↓ev_ret, Nat.reduceAdd]
        try simp (disch := omega) only [pk_mul, nI_add, n_lt0, n_le0, n_eq0, n_ge0, n_gt0, n_lt, n_le, n_eq, n_in, n_div, n_rem, n_rem2, n_m1, nI_clamp, bz_0, bz_1, tI_0, tI_bz, n4, n16, eq_self, Nat.reduceLT, Nat.reduceLeDiff, Nat.reduceEqDiff, Nat.reduceAdd, Nat.reduceMul, Nat.reduceDiv, Nat.reduceMod, Nat.le_refl, decide_eq_false_iff_not, Classical.not_not, true_and, and_true, false_and, and_false, not_true_eq_false, not_false_eq_true, forall_const, true_implies, false_implies, implies_true, ne_eq, e]
        have J12 : ∀ (h4 : mH) (x3 x4 : Option mV), OD h h4 → RR h4 L (if lae τ3.1 Q (dt τ3.1 k k2) < dt τ3.1 k k2 then addc L (dt τ3.1 k k2) (-1) (gt L (fun S => upd S (64 + (4 * k + k2)) (nI (lae τ3.1 Q (dt τ3.1 k k2)))) (addc L (lae τ3.1 Q (dt τ3.1 k k2)) (nI 1) τ3)) else τ3) → EX (Kd sL (d + 4)) sL md_X4_folds (pU q) 12 [some (.inr (.inr (.inr 7))), some (.inl (nI k)), some (.inl (nI k2)), x3, x4] [] h4 := by
          intro h4 x3 x4 o4 t4
          refine EX.go (Kd_mono _ _) [false, true, false, false, false, true, false, false, false, false, false, false, false, false, false] 40 12 ?_
          dsimp only [wpc_s, wsl_t, wsl_f, gD_0, gD_s, ↓denB_n, pI_s, pG_s, pU_n, cb_X4_folds_0, cb_X4_folds_1, cb_X4_folds_2, cb_X4_folds_3, cb_X4_folds_4, cb_X4_folds_5, cb_X4_folds_6, cb_X4_folds_7, cb_X4_folds_8, cb_X4_folds_9, cb_X4_folds_10, cb_X4_folds_11, cb_X4_folds_12, cb_X4_folds_13, cb_X4_folds_14, ↓ev_iconst_1, ↓ev_istore_n_1, ↓ev_iload_n_1, ↓ev_bipush_64, ↓ev_icmp_ge, ↓ev_aload_n_0, ↓ev_callv_2_0_1, ↓ev_callv_2_1_1, ↓ev_callv_2_2_1, ↓ev_callv_2_3_1, ↓ev_callv_2_4_1, ↓ev_if_ne, ↓ev_goto, ↓ev_iconst_0, ↓ev_istore_n_2, ↓ev_iload_n_2, ↓ev_iconst_4, ↓ev_getf_4_0, ↓ev_imul, ↓ev_iadd, ↓ev_iald_o8, ↓ev_iald_o9, ↓ev_iald_o10, ↓ev_iald_o11, ↓ev_iald_o12, ↓ev_iald_o13, ↓ev_iald_o14, ↓ev_iald_o15, ↓ev_iald_o16, ↓ev_istore_n_3, ↓ev_iload_n_3, ↓ev_istore_4, ↓ev_iload_4, ↓ev_icmp_ne, ↓ev_callv_3_0_0, ↓ev_callv_3_1_0, ↓ev_callv_3_2_0, ↓ev_callv_3_3_0, ↓ev_callv_3_4_0, ↓ev_iconst_m1, ↓ev_iinc_2_1, ↓ev_iinc_1_1, ↓ev_ret, Nat.reduceAdd]
          try simp (disch := omega) only [pk_mul, nI_add, n_lt0, n_le0, n_eq0, n_ge0, n_gt0, n_lt, n_le, n_eq, n_in, n_div, n_rem, n_rem2, n_m1, nI_clamp, bz_0, bz_1, tI_0, tI_bz, n4, n16, eq_self, Nat.reduceLT, Nat.reduceLeDiff, Nat.reduceEqDiff, Nat.reduceAdd, Nat.reduceMul, Nat.reduceDiv, Nat.reduceMod, Nat.le_refl, decide_eq_false_iff_not, Classical.not_not, true_and, and_true, false_and, and_false, not_true_eq_false, not_false_eq_true, forall_const, true_implies, false_implies, implies_true, ne_eq]
          exact ih3 h4 _ _ o4 t4
        refine ⟨fun c => absurd c (by omega), fun _ => ⟨by omega, fun c => ?_, fun c => ?_⟩⟩
        · refine r_likeOf t3.1 f3.2.1 (by omega) hdl (fun F G => ?_)
          rw [enow]
          have hlp := fun z => lae_p (S := τ3.1) (P := Q) (dd := dt τ3.1 k k2) z
          generalize hlae : lae τ3.1 Q (dt τ3.1 k k2) = e1 at hll J12 hlp ⊢
          try simp (disch := omega) only [pk_mul, nI_add, n_lt0, n_le0, n_eq0, n_ge0, n_gt0, n_lt, n_le, n_eq, n_in, n_div, n_rem, n_rem2, n_m1, nI_clamp, bz_0, bz_1, tI_0, tI_bz, n4, n16, eq_self, Nat.reduceLT, Nat.reduceLeDiff, Nat.reduceEqDiff, Nat.reduceAdd, Nat.reduceMul, Nat.reduceDiv, Nat.reduceMod, Nat.le_refl, decide_eq_false_iff_not, Classical.not_not, true_and, and_true, false_and, and_false, not_true_eq_false, not_false_eq_true, forall_const, true_implies, false_implies, implies_true, ne_eq]
          refine ⟨fun c2 => ?_, fun c2 => ?_⟩
          · have hlt : e1 < dt τ3.1 k k2 := by omega
            rw [if_pos hlt] at J12
            have h1e := (hlp hlt).2.2
            refine r_addc t3.p23 (by omega) (by omega) (fun h5 o5 t5 => ?_)
            refine r_sets t5 (by omega) (fun h6 o6 t6 => ?_)
            refine r_addc t6 c hdl (fun h7 o7 t7 => ?_)
            rw [Nat.add_assoc] at t7
            exact J12 h7 _ _ (o3.tr (OD.p23.tr (o5.od.tr (o6.od.tr o7.od)))) t7
          · rw [if_neg (by omega)] at J12
            exact J12 _ _ _ (o3.tr OD.p23) t3.p23
        · rw [if_neg (by omega)] at J12
          exact ⟨fun z => absurd c.symm z, fun _ => J12 h3 _ _ o3 t3⟩
    · have hnk : ¬ nam σ.1 k := (not_congr (f2.n k)).mp (by rw [dec_f] at c; exact c)
      rw [if_neg (by rw [hPd]; exact hnk)] at J13
      exact J13 h2 _ _ _ o2 t2 f2
end RFOLD
