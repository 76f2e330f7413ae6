/-! ===== class Thought: owning a table, writing a place ===== -/
section OWN
variable {sL d L : Nat} {h : mH} {σ : Sg}
theorem TR.img {h h' : mH} {L : Nat} {σ : Sg} {S' : St} (hT : TR h L σ) (ho : Oi 2 h h') (hC : CR h' 2 S') : TR h' L (S', σ.2.1, σ.2.2) := by
  obtain ⟨-, e5, e6, e7, hle, hL, hk3⟩ := hT
  exact ⟨hC, by rw [ho.oth]; exact e5, by rw [ho.oth]; exact e6, by rw [ho.oth]; exact e7, hle, hL, hk3⟩
theorem mn_gt {f : St → St} (hf : ∀ S, mn (f S) = mn S) (σ : Sg) : mn (gt L f σ).1 = mn σ.1 := by
  unfold gt
  split
  · split
    · rfl
    · exact hf _
  · rfl
theorem mn_addc (c : Nat) (v : Int32) (hc : c < 64) (σ : Sg) : mn (addc L c v σ).1 = mn σ.1 := by
  unfold addc
  split
  · rfl
  · exact mn_gt (fun S => (lo_same (by omega)).1) σ
theorem mn_cp4 {a b : Nat} (hb : b < 64) (S : St) : mn (cp4 S a b) = mn S := by
  unfold mn cp4
  rw [if_neg (by omega)]
theorem mn_incF (old : Nat) : ∀ (k : Nat) (σ : Sg), mn (incF L old k σ).1 = mn σ.1
  | 0, σ => rfl
  | k + 1, σ => by
    unfold incF
    rw [mn_addc _ _ (dt_lt _ _ _)]
    exact mn_incF old k σ
theorem ncl_S (σ : Sg) : (ncl σ).2.1 = σ.1 := by
  unfold ncl
  split
  · split <;> rfl
  · rfl
theorem CR.cp4 {h : mH} {i : Fin 3} {S : St} (hC : CR h i S) {a b : Nat} (ha : a < 64) (hb : b < 64) : CR (hcp h (.inl (i, 1)) (4 * a) (.inl (i, 1)) (4 * b) 4) i (cp4 S a b) := by
  have hs : ∀ j, ¬ (64 + 4 * b ≤ j ∧ j < 64 + 4 * b + 4) → _root_.Jvm.Pilot.CTornLayersLaw_law_r3866_5c6994.cp4 S a b j = S j := fun j hj => by
    show (if _ then _ else _) = _
    rw [if_neg hj]
  obtain ⟨h1, h2, h3, h4, h5, h6, h7, h8⟩ := hC
  have e1 : mn (_root_.Jvm.Pilot.CTornLayersLaw_law_r3866_5c6994.cp4 S a b) = mn S := mn_cp4 hb S
  have e2 : ∀ x, prs (_root_.Jvm.Pilot.CTornLayersLaw_law_r3866_5c6994.cp4 S a b) x = prs S x := fun x => by unfold prs; rw [e1, hs (377 + x) (by omega)]
  have eo : ∀ (r : mRef) (k : Nat), r ≠ .inl (i, 1) → hcp h (.inl (i, 1)) (4 * a) (.inl (i, 1)) (4 * b) 4 r k = h r k := fun r k hr => by simp [hcp, hr]
  refine ⟨fun j hj => ?_, fun j hj => ?_, fun x k hx hk => ?_, fun l hl => ?_, fun s hs' => ?_, ?_, ?_, ?_⟩
  · by_cases q : 4 * b ≤ j ∧ j < 4 * b + 4
    · have e : hcp h (.inl (i, 1)) (4 * a) (.inl (i, 1)) (4 * b) 4 (.inl (i, 1)) j = h (.inl (i, 1)) (4 * a + (j - 4 * b)) := by simp [hcp, q]
      rw [e, h1 _ (by omega)]
      show _ = (if _ then _ else _)
      rw [if_pos (by omega)]
      congr 1
      omega
    · have e : hcp h (.inl (i, 1)) (4 * a) (.inl (i, 1)) (4 * b) 4 (.inl (i, 1)) j = h (.inl (i, 1)) j := by
        unfold hcp
        rw [if_neg (fun z => q z.2)]
      rw [e, h1 j hj, hs _ (by omega)]
  · rw [eo _ _ (by simp), h2 j hj, hs _ (by omega)]
  · rw [eo _ _ (by simp), h3 x k hx hk]; unfold tb; rw [e2, hs _ (by omega)]
  · rw [eo _ _ (by simp), h4 l hl]; unfold bk; rw [e1, hs _ (by omega)]
  · rw [eo _ _ (by simp), h5 s hs']; unfold sn; rw [hs _ (by omega), hs _ (by omega)]
  · rw [eo _ _ (by simp), h6, e1]
  · rw [e1]; exact h7
  · rw [eo _ _ (by simp), h8, hs _ (by omega)]
theorem Oi.cp {i : Fin 3} {h : mH} {q : Nat} {a : mRef} {sp dp n : Nat} : Oi i h (hcp h a sp (.inl (i, q)) dp n) := fun r hr => by
  funext k
  simp [hcp, hr q]
theorem k_ownTable {l i : Nat} {p : Int32 → mH → Prop} (hT : TR h L σ) (hl : l < mn σ.1) (hi : i < 4) (hp : ∀ h', OT h h' → TR h' L (own L l i σ).2 → p (nI (own L l i σ).1) h') : mI (Kd sL (d + 3)) 40 [.inr (.inr (.inr 2)), .inl (nI l), .inl (nI i)] h p := by
  refine ke_X2_ownTable ?_
  refine EX.go (Kd_mono _ _) [false, false, false, true, false, false, false, false, true, false, false, false, false, false, false, false, false, false, false] 40 0 ?_
  dsimp only [wpc_s, wsl_t, wsl_f, gD_0, gD_s, ↓denB_n, pI_s, pG_s, pU_n, cb_X2_ownTable_0, cb_X2_ownTable_1, cb_X2_ownTable_2, cb_X2_ownTable_3, cb_X2_ownTable_4, cb_X2_ownTable_5, cb_X2_ownTable_6, cb_X2_ownTable_7, cb_X2_ownTable_8, cb_X2_ownTable_9, cb_X2_ownTable_10, cb_X2_ownTable_11, cb_X2_ownTable_12, cb_X2_ownTable_13, cb_X2_ownTable_14, cb_X2_ownTable_15, cb_X2_ownTable_16, cb_X2_ownTable_17, cb_X2_ownTable_18, ↓ev_aload_n_0, ↓ev_getf_2_0, ↓ev_iload_n_1, ↓ev_iload_n_2, ↓ev_callv_3_0_1, ↓ev_callv_3_1_1, ↓ev_callv_3_2_1, ↓ev_callv_3_3_1, ↓ev_callv_3_4_1, ↓ev_callv_3_5_1, ↓ev_istore_n_3, ↓ev_iload_n_3, ↓ev_if_eq, ↓ev_getf_0_1, ↓ev_iald_m1, ↓ev_iald_m2, ↓ev_iald_m3, ↓ev_iald_m4, ↓ev_iald_m5, ↓ev_iald_m6, ↓ev_iald_o3, ↓ev_iconst_1, ↓ev_icmp_gt, ↓ev_iret, ↓ev_callv_1_0_1, ↓ev_callv_1_1_1, ↓ev_callv_1_2_1, ↓ev_callv_1_3_1, ↓ev_callv_1_4_1, ↓ev_istore_4, ↓ev_iload_4, ↓ev_iast_m1, ↓ev_iast_m2, ↓ev_iast_m3, ↓ev_iast_m4, ↓ev_iast_m5, ↓ev_iast_m6, ↓ev_iast_o3, ↓ev_getf_0_0, ↓ev_iconst_4, ↓ev_imul, ↓ev_iconst_0, ↓ev_istore_5, ↓ev_iload_5, ↓ev_icmp_ge, ↓ev_istore_6, ↓ev_iload_6, ↓ev_dup2, ↓ev_iadd, ↓ev_iinc_5_1, ↓ev_goto, ↓ev_getf_0_2, ↓ev_isub, Nat.reduceAdd]
  have hm6 := hT.1.2.2.2.2.2.2.1
  refine k_tableAt hT.1 (by omega) hi ?_
  have hol := tb_lt σ.1 l i
  have e : h (.inl (2, 2)) (tb σ.1 l i) = σ.1 (tb σ.1 l i) := hT.1.2.1 _ hol
  try simp (disch := omega) only [pk_mul, nI_add, n_lt0, n_le0, n_eq0, n_ge0, n_gt0, n_lt, n_le, n_eq, n_in, n_div, n_rem, n_rem2, n_m1, nI_clamp, bz_0, bz_1, tI_0, tI_bz, n4, n16, eq_self, Nat.reduceLT, Nat.reduceLeDiff, Nat.reduceEqDiff, Nat.reduceAdd, Nat.reduceMul, Nat.reduceDiv, Nat.reduceMod, Nat.le_refl, decide_eq_false_iff_not, Classical.not_not, true_and, and_true, false_and, and_false, not_true_eq_false, not_false_eq_true, forall_const, true_implies, false_implies, implies_true, ne_eq, e]
  suffices H : ¬ (¬ tb σ.1 l i = 0 ∧ σ.1 (tb σ.1 l i) ≤ nI 1) → EX (Kd sL (d + 2)) sL md_X2_ownTable (pI p) 3 [some (.inr (.inr (.inr 2))), some (.inl (nI l)), some (.inl (nI i)), some (.inl (nI (tb σ.1 l i))), none, none, none] [] h by
    refine ⟨fun c => H (fun z => z.1 c), fun c => ⟨hol, fun c2 => H (fun z => Int32.not_lt.mpr z.2 c2), fun c2 => ?_⟩⟩
    have hp := hp h OT.rf
    unfold own at hp
    rw [if_pos ⟨c, Int32.not_lt.mp c2⟩] at hp
    exact hp hT
  intro hneg
  unfold own at hp
  rw [if_neg hneg] at hp
  generalize hold : tb σ.1 l i = old at hp hol
  clear hneg e
  refine EX.go (Kd_mono _ _) [false, false, false, false, false, true, false, false, true, false, false, false, false, false, false, false, false, false, false] 40 3 ?_
  dsimp only [wpc_s, wsl_t, wsl_f, gD_0, gD_s, ↓denB_n, pI_s, pG_s, pU_n, cb_X2_ownTable_0, cb_X2_ownTable_1, cb_X2_ownTable_2, cb_X2_ownTable_3, cb_X2_ownTable_4, cb_X2_ownTable_5, cb_X2_ownTable_6, cb_X2_ownTable_7, cb_X2_ownTable_8, cb_X2_ownTable_9, cb_X2_ownTable_10, cb_X2_ownTable_11, cb_X2_ownTable_12, cb_X2_ownTable_13, cb_X2_ownTable_14, cb_X2_ownTable_15, cb_X2_ownTable_16, cb_X2_ownTable_17, cb_X2_ownTable_18, ↓ev_aload_n_0, ↓ev_getf_2_0, ↓ev_iload_n_1, ↓ev_iload_n_2, ↓ev_callv_3_0_1, ↓ev_callv_3_1_1, ↓ev_callv_3_2_1, ↓ev_callv_3_3_1, ↓ev_callv_3_4_1, ↓ev_callv_3_5_1, ↓ev_istore_n_3, ↓ev_iload_n_3, ↓ev_if_eq, ↓ev_getf_0_1, ↓ev_iald_m1, ↓ev_iald_m2, ↓ev_iald_m3, ↓ev_iald_m4, ↓ev_iald_m5, ↓ev_iald_m6, ↓ev_iald_o3, ↓ev_iconst_1, ↓ev_icmp_gt, ↓ev_iret, ↓ev_callv_1_0_1, ↓ev_callv_1_1_1, ↓ev_callv_1_2_1, ↓ev_callv_1_3_1, ↓ev_callv_1_4_1, ↓ev_istore_4, ↓ev_iload_4, ↓ev_iast_m1, ↓ev_iast_m2, ↓ev_iast_m3, ↓ev_iast_m4, ↓ev_iast_m5, ↓ev_iast_m6, ↓ev_iast_o3, ↓ev_getf_0_0, ↓ev_iconst_4, ↓ev_imul, ↓ev_iconst_0, ↓ev_istore_5, ↓ev_iload_5, ↓ev_icmp_ge, ↓ev_istore_6, ↓ev_iload_6, ↓ev_dup2, ↓ev_iadd, ↓ev_iinc_5_1, ↓ev_goto, ↓ev_getf_0_2, ↓ev_isub, Nat.reduceAdd]
  refine k_newCluster hT (fun h1 o1 t1 => ?_)
  have hn := ncl_lt σ
  have hmn : mn (ncl σ).2.1 = mn σ.1 := by rw [ncl_S]
  generalize hq : ncl σ = q at hp t1 hn hmn ⊢
  obtain ⟨n, σ1⟩ := q
  dsimp only at hp t1 hn hmn ⊢
  unfold own2 at hp
  -- the last gate
  have J15 : ∀ (h2 : mH) (σ2 : Sg) (o5 o6 : Option mV), OT h h2 → TR h2 L σ2 → (∀ h', OT h h' → TR h' L (addc L old (-1) σ2) → p (nI n) h') → EX (Kd sL (d + 2)) sL md_X2_ownTable (pI p) 15 [some (.inr (.inr (.inr 2))), some (.inl (nI l)), some (.inl (nI i)), some (.inl (nI old)), some (.inl (nI n)), o5, o6] [] h2 := by
    intro h2 σ2 o5 o6 o2 t2 hp
    refine EX.go (Kd_mono _ _) [false, false, false, true, false, false, false, false, true, false, false, false, false, false, false, false, false, false, false] 40 15 ?_
    dsimp only [wpc_s, wsl_t, wsl_f, gD_0, gD_s, ↓denB_n, pI_s, pG_s, pU_n, cb_X2_ownTable_0, cb_X2_ownTable_1, cb_X2_ownTable_2, cb_X2_ownTable_3, cb_X2_ownTable_4, cb_X2_ownTable_5, cb_X2_ownTable_6, cb_X2_ownTable_7, cb_X2_ownTable_8, cb_X2_ownTable_9, cb_X2_ownTable_10, cb_X2_ownTable_11, cb_X2_ownTable_12, cb_X2_ownTable_13, cb_X2_ownTable_14, cb_X2_ownTable_15, cb_X2_ownTable_16, cb_X2_ownTable_17, cb_X2_ownTable_18, ↓ev_aload_n_0, ↓ev_getf_2_0, ↓ev_iload_n_1, ↓ev_iload_n_2, ↓ev_callv_3_0_1, ↓ev_callv_3_1_1, ↓ev_callv_3_2_1, ↓ev_callv_3_3_1, ↓ev_callv_3_4_1, ↓ev_callv_3_5_1, ↓ev_istore_n_3, ↓ev_iload_n_3, ↓ev_if_eq, ↓ev_getf_0_1, ↓ev_iald_m1, ↓ev_iald_m2, ↓ev_iald_m3, ↓ev_iald_m4, ↓ev_iald_m5, ↓ev_iald_m6, ↓ev_iald_o3, ↓ev_iconst_1, ↓ev_icmp_gt, ↓ev_iret, ↓ev_callv_1_0_1, ↓ev_callv_1_1_1, ↓ev_callv_1_2_1, ↓ev_callv_1_3_1, ↓ev_callv_1_4_1, ↓ev_istore_4, ↓ev_iload_4, ↓ev_iast_m1, ↓ev_iast_m2, ↓ev_iast_m3, ↓ev_iast_m4, ↓ev_iast_m5, ↓ev_iast_m6, ↓ev_iast_o3, ↓ev_getf_0_0, ↓ev_iconst_4, ↓ev_imul, ↓ev_iconst_0, ↓ev_istore_5, ↓ev_iload_5, ↓ev_icmp_ge, ↓ev_istore_6, ↓ev_iload_6, ↓ev_dup2, ↓ev_iadd, ↓ev_iinc_5_1, ↓ev_goto, ↓ev_getf_0_2, ↓ev_isub, Nat.reduceAdd]
    try simp (disch := omega) only [pk_mul, nI_add, n_lt0, n_le0, n_eq0, n_ge0, n_gt0, n_lt, n_le, n_eq, n_in, n_div, n_rem, n_rem2, n_m1, nI_clamp, bz_0, bz_1, tI_0, tI_bz, n4, n16, eq_self, Nat.reduceLT, Nat.reduceLeDiff, Nat.reduceEqDiff, Nat.reduceAdd, Nat.reduceMul, Nat.reduceDiv, Nat.reduceMod, Nat.le_refl, decide_eq_false_iff_not, Classical.not_not, true_and, and_true, false_and, and_false, not_true_eq_false, not_false_eq_true, forall_const, true_implies, false_implies, implies_true, ne_eq]
    unfold addc at hp
    refine ⟨fun c => ?_, fun c => ?_⟩
    · rw [if_pos c] at hp
      exact hp h2 o2 t2
    · rw [if_neg c] at hp
      refine k_step t2 (fun h3 o3 t3 hn => ?_) (fun h3 o3 z0 z1 t3 => ?_)
      · rw [gt_no hn] at hp
        exact ⟨fun _ => hp h3 (o2.tr o3) t3, fun c2 => absurd rfl c2⟩
      · rw [gt_yes z0 z1] at hp
        refine ⟨fun c2 => absurd c2 (by decide), fun _ => ?_⟩
        have e : h3 (.inl (2, 2)) old = σ2.1 old := t3.1.2.1 old hol
        try simp (disch := omega) only [pk_mul, nI_add, n_lt0, n_le0, n_eq0, n_ge0, n_gt0, n_lt, n_le, n_eq, n_in, n_div, n_rem, n_rem2, n_m1, nI_clamp, bz_0, bz_1, tI_0, tI_bz, n4, n16, eq_self, Nat.reduceLT, Nat.reduceLeDiff, Nat.reduceEqDiff, Nat.reduceAdd, Nat.reduceMul, Nat.reduceDiv, Nat.reduceMod, Nat.le_refl, decide_eq_false_iff_not, Classical.not_not, true_and, and_true, false_and, and_false, not_true_eq_false, not_false_eq_true, forall_const, true_implies, false_implies, implies_true, ne_eq, e]
        refine ⟨hol, hol, hp _ (o2.tr (o3.tr (OT.oi Oi.up))) ?_⟩
        rw [show σ2.1 old + -1 = σ2.1 old - nI 1 from (Int32.sub_eq_add_neg _ _).symm]
        exact t3.img Oi.up (t3.1.cnt1 hol _)
  have J13 : ∀ (h2 : mH) (σ2 : Sg) (o5 o6 : Option mV), OT h h2 → TR h2 L σ2 → mn σ2.1 = mn σ.1 → (∀ h', OT h h' → TR h' L (addc L old (-1) (gt L (fun S => upd S (327 + 4 * l + i) (nI n)) σ2)) → p (nI n) h') → EX (Kd sL (d + 2)) sL md_X2_ownTable (pI p) 13 [some (.inr (.inr (.inr 2))), some (.inl (nI l)), some (.inl (nI i)), some (.inl (nI old)), some (.inl (nI n)), o5, o6] [] h2 := by
    intro h2 σ2 o5 o6 o2 t2 hm hp
    refine EX.go (Kd_mono _ _) [false, false, false, false, false, false, false, false, true, false, false, false, false, false, false, true, false, false, false] 40 13 ?_
    dsimp only [wpc_s, wsl_t, wsl_f, gD_0, gD_s, ↓denB_n, pI_s, pG_s, pU_n, cb_X2_ownTable_0, cb_X2_ownTable_1, cb_X2_ownTable_2, cb_X2_ownTable_3, cb_X2_ownTable_4, cb_X2_ownTable_5, cb_X2_ownTable_6, cb_X2_ownTable_7, cb_X2_ownTable_8, cb_X2_ownTable_9, cb_X2_ownTable_10, cb_X2_ownTable_11, cb_X2_ownTable_12, cb_X2_ownTable_13, cb_X2_ownTable_14, cb_X2_ownTable_15, cb_X2_ownTable_16, cb_X2_ownTable_17, cb_X2_ownTable_18, ↓ev_aload_n_0, ↓ev_getf_2_0, ↓ev_iload_n_1, ↓ev_iload_n_2, ↓ev_callv_3_0_1, ↓ev_callv_3_1_1, ↓ev_callv_3_2_1, ↓ev_callv_3_3_1, ↓ev_callv_3_4_1, ↓ev_callv_3_5_1, ↓ev_istore_n_3, ↓ev_iload_n_3, ↓ev_if_eq, ↓ev_getf_0_1, ↓ev_iald_m1, ↓ev_iald_m2, ↓ev_iald_m3, ↓ev_iald_m4, ↓ev_iald_m5, ↓ev_iald_m6, ↓ev_iald_o3, ↓ev_iconst_1, ↓ev_icmp_gt, ↓ev_iret, ↓ev_callv_1_0_1, ↓ev_callv_1_1_1, ↓ev_callv_1_2_1, ↓ev_callv_1_3_1, ↓ev_callv_1_4_1, ↓ev_istore_4, ↓ev_iload_4, ↓ev_iast_m1, ↓ev_iast_m2, ↓ev_iast_m3, ↓ev_iast_m4, ↓ev_iast_m5, ↓ev_iast_m6, ↓ev_iast_o3, ↓ev_getf_0_0, ↓ev_iconst_4, ↓ev_imul, ↓ev_iconst_0, ↓ev_istore_5, ↓ev_iload_5, ↓ev_icmp_ge, ↓ev_istore_6, ↓ev_iload_6, ↓ev_dup2, ↓ev_iadd, ↓ev_iinc_5_1, ↓ev_goto, ↓ev_getf_0_2, ↓ev_isub, Nat.reduceAdd]
    refine k_step t2 (fun h3 o3 t3 hn => ?_) (fun h3 o3 z0 z1 t3 => ?_)
    · rw [gt_no hn] at hp
      exact ⟨fun _ => J15 h3 _ _ _ (o2.tr o3) t3 hp, fun c2 => absurd rfl c2⟩
    · rw [gt_yes z0 z1] at hp
      refine ⟨fun c2 => absurd c2 (by decide), fun _ => ?_⟩
      try simp (disch := omega) only [pk_mul, nI_add, n_lt0, n_le0, n_eq0, n_ge0, n_gt0, n_lt, n_le, n_eq, n_in, n_div, n_rem, n_rem2, n_m1, nI_clamp, bz_0, bz_1, tI_0, tI_bz, n4, n16, eq_self, Nat.reduceLT, Nat.reduceLeDiff, Nat.reduceEqDiff, Nat.reduceAdd, Nat.reduceMul, Nat.reduceDiv, Nat.reduceMod, Nat.le_refl, decide_eq_false_iff_not, Classical.not_not, true_and, and_true, false_and, and_false, not_true_eq_false, not_false_eq_true, forall_const, true_implies, false_implies, implies_true, ne_eq]
      refine ⟨by omega, J15 _ _ _ _ (o2.tr (o3.tr (OT.oi Oi.up))) ?_ hp⟩
      rw [show l * 4 + i = 4 * l + i by omega]
      exact t3.img Oi.up (t3.1.dir1 (by dsimp only; omega) hi hn)
  have J8 : ∀ (f k : Nat) (h2 : mH) (o6 : Option mV), k + f = 4 → OT h h2 → ∀ σ2 : Sg, mn σ2.1 = mn σ.1 → TR h2 L (incF L old k σ2) → (∀ h', OT h h' → TR h' L (addc L old (-1) (gt L (fun S => upd S (327 + 4 * l + i) (nI n)) (incF L old 4 σ2))) → p (nI n) h') → EX (Kd sL (d + 2)) sL md_X2_ownTable (pI p) 8 [some (.inr (.inr (.inr 2))), some (.inl (nI l)), some (.inl (nI i)), some (.inl (nI old)), some (.inl (nI n)), some (.inl (nI k)), o6] [] h2 := by
    intro f
    induction f with
    | zero =>
      intro k h2 o6 hk o2 σ2 hm t2 hp
      refine EX.go (Kd_mono _ _) [false, false, false, false, false, false, false, false, true, false, false, false, false, true, false, false, false, false, false] 40 8 ?_
      dsimp only [wpc_s, wsl_t, wsl_f, gD_0, gD_s, ↓denB_n, pI_s, pG_s, pU_n, cb_X2_ownTable_0, cb_X2_ownTable_1, cb_X2_ownTable_2, cb_X2_ownTable_3, cb_X2_ownTable_4, cb_X2_ownTable_5, cb_X2_ownTable_6, cb_X2_ownTable_7, cb_X2_ownTable_8, cb_X2_ownTable_9, cb_X2_ownTable_10, cb_X2_ownTable_11, cb_X2_ownTable_12, cb_X2_ownTable_13, cb_X2_ownTable_14, cb_X2_ownTable_15, cb_X2_ownTable_16, cb_X2_ownTable_17, cb_X2_ownTable_18, ↓ev_aload_n_0, ↓ev_getf_2_0, ↓ev_iload_n_1, ↓ev_iload_n_2, ↓ev_callv_3_0_1, ↓ev_callv_3_1_1, ↓ev_callv_3_2_1, ↓ev_callv_3_3_1, ↓ev_callv_3_4_1, ↓ev_callv_3_5_1, ↓ev_istore_n_3, ↓ev_iload_n_3, ↓ev_if_eq, ↓ev_getf_0_1, ↓ev_iald_m1, ↓ev_iald_m2, ↓ev_iald_m3, ↓ev_iald_m4, ↓ev_iald_m5, ↓ev_iald_m6, ↓ev_iald_o3, ↓ev_iconst_1, ↓ev_icmp_gt, ↓ev_iret, ↓ev_callv_1_0_1, ↓ev_callv_1_1_1, ↓ev_callv_1_2_1, ↓ev_callv_1_3_1, ↓ev_callv_1_4_1, ↓ev_istore_4, ↓ev_iload_4, ↓ev_iast_m1, ↓ev_iast_m2, ↓ev_iast_m3, ↓ev_iast_m4, ↓ev_iast_m5, ↓ev_iast_m6, ↓ev_iast_o3, ↓ev_getf_0_0, ↓ev_iconst_4, ↓ev_imul, ↓ev_iconst_0, ↓ev_istore_5, ↓ev_iload_5, ↓ev_icmp_ge, ↓ev_istore_6, ↓ev_iload_6, ↓ev_dup2, ↓ev_iadd, ↓ev_iinc_5_1, ↓ev_goto, ↓ev_getf_0_2, ↓ev_isub, Nat.reduceAdd]
      try simp (disch := omega) only [pk_mul, nI_add, n_lt0, n_le0, n_eq0, n_ge0, n_gt0, n_lt, n_le, n_eq, n_in, n_div, n_rem, n_rem2, n_m1, nI_clamp, bz_0, bz_1, tI_0, tI_bz, n4, n16, eq_self, Nat.reduceLT, Nat.reduceLeDiff, Nat.reduceEqDiff, Nat.reduceAdd, Nat.reduceMul, Nat.reduceDiv, Nat.reduceMod, Nat.le_refl, decide_eq_false_iff_not, Classical.not_not, true_and, and_true, false_and, and_false, not_true_eq_false, not_false_eq_true, forall_const, true_implies, false_implies, implies_true, ne_eq]
      rw [show k = 4 by omega] at t2
      exact ⟨fun _ => J13 h2 _ _ _ o2 t2 (by rw [mn_incF, hm]) hp, fun c2 => absurd (show 4 ≤ k by omega) c2⟩
    | succ f ih =>
      intro k h2 o6 hk o2 σ2 hm t2 hp
      refine EX.go (Kd_mono _ _) [false, false, false, false, false, false, false, false, true, false, false, false, true, true, false, false, false, false, false] 40 8 ?_
      dsimp only [wpc_s, wsl_t, wsl_f, gD_0, gD_s, ↓denB_n, pI_s, pG_s, pU_n, cb_X2_ownTable_0, cb_X2_ownTable_1, cb_X2_ownTable_2, cb_X2_ownTable_3, cb_X2_ownTable_4, cb_X2_ownTable_5, cb_X2_ownTable_6, cb_X2_ownTable_7, cb_X2_ownTable_8, cb_X2_ownTable_9, cb_X2_ownTable_10, cb_X2_ownTable_11, cb_X2_ownTable_12, cb_X2_ownTable_13, cb_X2_ownTable_14, cb_X2_ownTable_15, cb_X2_ownTable_16, cb_X2_ownTable_17, cb_X2_ownTable_18, ↓ev_aload_n_0, ↓ev_getf_2_0, ↓ev_iload_n_1, ↓ev_iload_n_2, ↓ev_callv_3_0_1, ↓ev_callv_3_1_1, ↓ev_callv_3_2_1, ↓ev_callv_3_3_1, ↓ev_callv_3_4_1, ↓ev_callv_3_5_1, ↓ev_istore_n_3, ↓ev_iload_n_3, ↓ev_if_eq, ↓ev_getf_0_1, ↓ev_iald_m1, ↓ev_iald_m2, ↓ev_iald_m3, ↓ev_iald_m4, ↓ev_iald_m5, ↓ev_iald_m6, ↓ev_iald_o3, ↓ev_iconst_1, ↓ev_icmp_gt, ↓ev_iret, ↓ev_callv_1_0_1, ↓ev_callv_1_1_1, ↓ev_callv_1_2_1, ↓ev_callv_1_3_1, ↓ev_callv_1_4_1, ↓ev_istore_4, ↓ev_iload_4, ↓ev_iast_m1, ↓ev_iast_m2, ↓ev_iast_m3, ↓ev_iast_m4, ↓ev_iast_m5, ↓ev_iast_m6, ↓ev_iast_o3, ↓ev_getf_0_0, ↓ev_iconst_4, ↓ev_imul, ↓ev_iconst_0, ↓ev_istore_5, ↓ev_iload_5, ↓ev_icmp_ge, ↓ev_istore_6, ↓ev_iload_6, ↓ev_dup2, ↓ev_iadd, ↓ev_iinc_5_1, ↓ev_goto, ↓ev_getf_0_2, ↓ev_isub, Nat.reduceAdd]
      try simp (disch := omega) only [pk_mul, nI_add, n_lt0, n_le0, n_eq0, n_ge0, n_gt0, n_lt, n_le, n_eq, n_in, n_div, n_rem, n_rem2, n_m1, nI_clamp, bz_0, bz_1, tI_0, tI_bz, n4, n16, eq_self, Nat.reduceLT, Nat.reduceLeDiff, Nat.reduceEqDiff, Nat.reduceAdd, Nat.reduceMul, Nat.reduceDiv, Nat.reduceMod, Nat.le_refl, decide_eq_false_iff_not, Classical.not_not, true_and, and_true, false_and, and_false, not_true_eq_false, not_false_eq_true, forall_const, true_implies, false_implies, implies_true, ne_eq]
      refine ⟨fun c2 => absurd c2 (by omega), fun _ => ?_⟩
      refine k_dataAt t2.1 hol (by omega) ?_
      have hdl := dt_lt (incF L old k σ2).1 old k
      have ih2 := fun h3 o6 o3 t3 => ih (k + 1) h3 o6 (by omega) o3 σ2 hm t3 hp
      have J12 : ∀ (h3 : mH) (o6 : Option mV), OT h h3 → TR h3 L (incF L old (k + 1) σ2) → EX (Kd sL (d + 2)) sL md_X2_ownTable (pI p) 12 [some (.inr (.inr (.inr 2))), some (.inl (nI l)), some (.inl (nI i)), some (.inl (nI old)), some (.inl (nI n)), some (.inl (nI k)), o6] [] h3 := by
        intro h3 o6 o3 t3
        refine EX.go (Kd_mono _ _) [false, false, false, true, false, false, false, false, true, false, false, false, false, false, false, false, false, false, false] 40 12 ?_
        dsimp only [wpc_s, wsl_t, wsl_f, gD_0, gD_s, ↓denB_n, pI_s, pG_s, pU_n, cb_X2_ownTable_0, cb_X2_ownTable_1, cb_X2_ownTable_2, cb_X2_ownTable_3, cb_X2_ownTable_4, cb_X2_ownTable_5, cb_X2_ownTable_6, cb_X2_ownTable_7, cb_X2_ownTable_8, cb_X2_ownTable_9, cb_X2_ownTable_10, cb_X2_ownTable_11, cb_X2_ownTable_12, cb_X2_ownTable_13, cb_X2_ownTable_14, cb_X2_ownTable_15, cb_X2_ownTable_16, cb_X2_ownTable_17, cb_X2_ownTable_18, ↓ev_aload_n_0, ↓ev_getf_2_0, ↓ev_iload_n_1, ↓ev_iload_n_2, ↓ev_callv_3_0_1, ↓ev_callv_3_1_1, ↓ev_callv_3_2_1, ↓ev_callv_3_3_1, ↓ev_callv_3_4_1, ↓ev_callv_3_5_1, ↓ev_istore_n_3, ↓ev_iload_n_3, ↓ev_if_eq, ↓ev_getf_0_1, ↓ev_iald_m1, ↓ev_iald_m2, ↓ev_iald_m3, ↓ev_iald_m4, ↓ev_iald_m5, ↓ev_iald_m6, ↓ev_iald_o3, ↓ev_iconst_1, ↓ev_icmp_gt, ↓ev_iret, ↓ev_callv_1_0_1, ↓ev_callv_1_1_1, ↓ev_callv_1_2_1, ↓ev_callv_1_3_1, ↓ev_callv_1_4_1, ↓ev_istore_4, ↓ev_iload_4, ↓ev_iast_m1, ↓ev_iast_m2, ↓ev_iast_m3, ↓ev_iast_m4, ↓ev_iast_m5, ↓ev_iast_m6, ↓ev_iast_o3, ↓ev_getf_0_0, ↓ev_iconst_4, ↓ev_imul, ↓ev_iconst_0, ↓ev_istore_5, ↓ev_iload_5, ↓ev_icmp_ge, ↓ev_istore_6, ↓ev_iload_6, ↓ev_dup2, ↓ev_iadd, ↓ev_iinc_5_1, ↓ev_goto, ↓ev_getf_0_2, ↓ev_isub, Nat.reduceAdd]
        try simp (disch := omega) only [pk_mul, nI_add, n_lt0, n_le0, n_eq0, n_ge0, n_gt0, n_lt, n_le, n_eq, n_in, n_div, n_rem, n_rem2, n_m1, nI_clamp, bz_0, bz_1, tI_0, tI_bz, n4, n16, eq_self, Nat.reduceLT, Nat.reduceLeDiff, Nat.reduceEqDiff, Nat.reduceAdd, Nat.reduceMul, Nat.reduceDiv, Nat.reduceMod, Nat.le_refl, decide_eq_false_iff_not, Classical.not_not, true_and, and_true, false_and, and_false, not_true_eq_false, not_false_eq_true, forall_const, true_implies, false_implies, implies_true, ne_eq]
        exact ih2 h3 _ o3 t3
      unfold incF at J12
      try simp (disch := omega) only [pk_mul, nI_add, n_lt0, n_le0, n_eq0, n_ge0, n_gt0, n_lt, n_le, n_eq, n_in, n_div, n_rem, n_rem2, n_m1, nI_clamp, bz_0, bz_1, tI_0, tI_bz, n4, n16, eq_self, Nat.reduceLT, Nat.reduceLeDiff, Nat.reduceEqDiff, Nat.reduceAdd, Nat.reduceMul, Nat.reduceDiv, Nat.reduceMod, Nat.le_refl, decide_eq_false_iff_not, Classical.not_not, true_and, and_true, false_and, and_false, not_true_eq_false, not_false_eq_true, forall_const, true_implies, false_implies, implies_true, ne_eq]
      unfold addc at J12
      refine ⟨fun c => ?_, fun c => ?_⟩
      · rw [if_pos c] at J12
        exact J12 h2 _ o2 t2
      · rw [if_neg c] at J12
        refine k_step t2 (fun h3 o3 t3 hn => ?_) (fun h3 o3 z0 z1 t3 => ?_)
        · rw [gt_no hn] at J12
          exact ⟨fun _ => J12 h3 _ (o2.tr o3) t3, fun c2 => absurd rfl c2⟩
        · rw [gt_yes z0 z1] at J12
          refine ⟨fun c2 => absurd c2 (by decide), fun _ => ?_⟩
          have e : h3 (.inl (2, 2)) (dt (incF L old k σ2).1 old k) = (incF L old k σ2).1 (dt (incF L old k σ2).1 old k) := t3.1.2.1 _ hdl
          try simp (disch := omega) only [pk_mul, nI_add, n_lt0, n_le0, n_eq0, n_ge0, n_gt0, n_lt, n_le, n_eq, n_in, n_div, n_rem, n_rem2, n_m1, nI_clamp, bz_0, bz_1, tI_0, tI_bz, n4, n16, eq_self, Nat.reduceLT, Nat.reduceLeDiff, Nat.reduceEqDiff, Nat.reduceAdd, Nat.reduceMul, Nat.reduceDiv, Nat.reduceMod, Nat.le_refl, decide_eq_false_iff_not, Classical.not_not, true_and, and_true, false_and, and_false, not_true_eq_false, not_false_eq_true, forall_const, true_implies, false_implies, implies_true, ne_eq, e]
          exact ⟨hdl, hdl, J12 _ _ (o2.tr (o3.tr (OT.oi Oi.up))) (t3.img Oi.up (t3.1.cnt1 hdl _))⟩
  have J5 : ∀ (h2 : mH) (σ2 : Sg) (o5 o6 : Option mV), OT h h2 → TR h2 L σ2 → mn σ2.1 = mn σ.1 → (∀ h', OT h h' → TR h' L (addc L old (-1) (gt L (fun S => upd S (327 + 4 * l + i) (nI n)) (incF L old 4 (gt L (fun S => cp4 S old n) σ2)))) → p (nI n) h') → EX (Kd sL (d + 2)) sL md_X2_ownTable (pI p) 5 [some (.inr (.inr (.inr 2))), some (.inl (nI l)), some (.inl (nI i)), some (.inl (nI old)), some (.inl (nI n)), o5, o6] [] h2 := by
    intro h2 σ2 o5 o6 o2 t2 hm hp
    refine EX.go (Kd_mono _ _) [false, false, false, false, false, false, false, false, true, false, false, false, false, false, false, false, false, false, false] 40 5 ?_
    dsimp only [wpc_s, wsl_t, wsl_f, gD_0, gD_s, ↓denB_n, pI_s, pG_s, pU_n, cb_X2_ownTable_0, cb_X2_ownTable_1, cb_X2_ownTable_2, cb_X2_ownTable_3, cb_X2_ownTable_4, cb_X2_ownTable_5, cb_X2_ownTable_6, cb_X2_ownTable_7, cb_X2_ownTable_8, cb_X2_ownTable_9, cb_X2_ownTable_10, cb_X2_ownTable_11, cb_X2_ownTable_12, cb_X2_ownTable_13, cb_X2_ownTable_14, cb_X2_ownTable_15, cb_X2_ownTable_16, cb_X2_ownTable_17, cb_X2_ownTable_18, ↓ev_aload_n_0, ↓ev_getf_2_0, ↓ev_iload_n_1, ↓ev_iload_n_2, ↓ev_callv_3_0_1, ↓ev_callv_3_1_1, ↓ev_callv_3_2_1, ↓ev_callv_3_3_1, ↓ev_callv_3_4_1, ↓ev_callv_3_5_1, ↓ev_istore_n_3, ↓ev_iload_n_3, ↓ev_if_eq, ↓ev_getf_0_1, ↓ev_iald_m1, ↓ev_iald_m2, ↓ev_iald_m3, ↓ev_iald_m4, ↓ev_iald_m5, ↓ev_iald_m6, ↓ev_iald_o3, ↓ev_iconst_1, ↓ev_icmp_gt, ↓ev_iret, ↓ev_callv_1_0_1, ↓ev_callv_1_1_1, ↓ev_callv_1_2_1, ↓ev_callv_1_3_1, ↓ev_callv_1_4_1, ↓ev_istore_4, ↓ev_iload_4, ↓ev_iast_m1, ↓ev_iast_m2, ↓ev_iast_m3, ↓ev_iast_m4, ↓ev_iast_m5, ↓ev_iast_m6, ↓ev_iast_o3, ↓ev_getf_0_0, ↓ev_iconst_4, ↓ev_imul, ↓ev_iconst_0, ↓ev_istore_5, ↓ev_iload_5, ↓ev_icmp_ge, ↓ev_istore_6, ↓ev_iload_6, ↓ev_dup2, ↓ev_iadd, ↓ev_iinc_5_1, ↓ev_goto, ↓ev_getf_0_2, ↓ev_isub, Nat.reduceAdd]
    refine k_step t2 (fun h3 o3 t3 hn => ?_) (fun h3 o3 z0 z1 t3 => ?_)
    · rw [gt_no hn] at hp
      exact ⟨fun _ => J8 4 0 h3 _ rfl (o2.tr o3) (gt L (fun S => S) σ2) ((mn_gt (fun _ => rfl) σ2).trans hm) t3 hp, fun c2 => absurd rfl c2⟩
    · rw [gt_yes z0 z1] at hp
      refine ⟨fun c2 => absurd c2 (by decide), fun _ => ?_⟩
      try simp (disch := omega) only [pk_mul, nI_add, n_lt0, n_le0, n_eq0, n_ge0, n_gt0, n_lt, n_le, n_eq, n_in, n_div, n_rem, n_rem2, n_m1, nI_clamp, bz_0, bz_1, tI_0, tI_bz, n4, n16, eq_self, Nat.reduceLT, Nat.reduceLeDiff, Nat.reduceEqDiff, Nat.reduceAdd, Nat.reduceMul, Nat.reduceDiv, Nat.reduceMod, Nat.le_refl, decide_eq_false_iff_not, Classical.not_not, true_and, and_true, false_and, and_false, not_true_eq_false, not_false_eq_true, forall_const, true_implies, false_implies, implies_true, ne_eq]
      refine ev_copy rfl rfl (nI_pos' (by omega)) (nI_pos' (by omega)) (by decide) (by rw [nI_clamp (by omega), nI_clamp (by decide)]; omega) (by rw [nI_clamp (by omega), nI_clamp (by decide)]; omega) (by decide) ?_
      dsimp only [wpc_s, wsl_t, wsl_f, gD_0, gD_s, ↓denB_n, pI_s, pG_s, pU_n, cb_X2_ownTable_0, cb_X2_ownTable_1, cb_X2_ownTable_2, cb_X2_ownTable_3, cb_X2_ownTable_4, cb_X2_ownTable_5, cb_X2_ownTable_6, cb_X2_ownTable_7, cb_X2_ownTable_8, cb_X2_ownTable_9, cb_X2_ownTable_10, cb_X2_ownTable_11, cb_X2_ownTable_12, cb_X2_ownTable_13, cb_X2_ownTable_14, cb_X2_ownTable_15, cb_X2_ownTable_16, cb_X2_ownTable_17, cb_X2_ownTable_18, ↓ev_aload_n_0, ↓ev_getf_2_0, ↓ev_iload_n_1, ↓ev_iload_n_2, ↓ev_callv_3_0_1, ↓ev_callv_3_1_1, ↓ev_callv_3_2_1, ↓ev_callv_3_3_1, ↓ev_callv_3_4_1, ↓ev_callv_3_5_1, ↓ev_istore_n_3, ↓ev_iload_n_3, ↓ev_if_eq, ↓ev_getf_0_1, ↓ev_iald_m1, ↓ev_iald_m2, ↓ev_iald_m3, ↓ev_iald_m4, ↓ev_iald_m5, ↓ev_iald_m6, ↓ev_iald_o3, ↓ev_iconst_1, ↓ev_icmp_gt, ↓ev_iret, ↓ev_callv_1_0_1, ↓ev_callv_1_1_1, ↓ev_callv_1_2_1, ↓ev_callv_1_3_1, ↓ev_callv_1_4_1, ↓ev_istore_4, ↓ev_iload_4, ↓ev_iast_m1, ↓ev_iast_m2, ↓ev_iast_m3, ↓ev_iast_m4, ↓ev_iast_m5, ↓ev_iast_m6, ↓ev_iast_o3, ↓ev_getf_0_0, ↓ev_iconst_4, ↓ev_imul, ↓ev_iconst_0, ↓ev_istore_5, ↓ev_iload_5, ↓ev_icmp_ge, ↓ev_istore_6, ↓ev_iload_6, ↓ev_dup2, ↓ev_iadd, ↓ev_iinc_5_1, ↓ev_goto, ↓ev_getf_0_2, ↓ev_isub, Nat.reduceAdd]
      rw [nI_clamp (by omega), nI_clamp (by omega), nI_clamp (by decide)]
      refine J8 4 0 _ _ rfl (o2.tr (o3.tr (OT.oi Oi.cp))) (cp4 σ2.1 old n, σ2.2.1 + 1, 0) (by dsimp only; rw [mn_cp4 hn, hm]) ?_ hp
      rw [show old * 4 = 4 * old by omega, show n * 4 = 4 * n by omega]
      exact t3.img Oi.cp (t3.1.cp4 hol hn)
  refine k_step t1 (fun h3 o3 t3 hn' => ?_) (fun h3 o3 z0 z1 t3 => ?_)
  · rw [gt_no hn'] at hp
    exact ⟨fun _ => J5 h3 _ _ _ (o1.tr o3) t3 ((mn_gt (fun _ => rfl) σ1).trans hmn) hp, fun c2 => absurd rfl c2⟩
  · rw [gt_yes z0 z1] at hp
    refine ⟨fun c2 => absurd c2 (by decide), fun _ => ?_⟩
    try simp (disch := omega) only [pk_mul, nI_add, n_lt0, n_le0, n_eq0, n_ge0, n_gt0, n_lt, n_le, n_eq, n_in, n_div, n_rem, n_rem2, n_m1, nI_clamp, bz_0, bz_1, tI_0, tI_bz, n4, n16, eq_self, Nat.reduceLT, Nat.reduceLeDiff, Nat.reduceEqDiff, Nat.reduceAdd, Nat.reduceMul, Nat.reduceDiv, Nat.reduceMod, Nat.le_refl, decide_eq_false_iff_not, Classical.not_not, true_and, and_true, false_and, and_false, not_true_eq_false, not_false_eq_true, forall_const, true_implies, false_implies, implies_true, ne_eq]
    exact ⟨hn, J5 _ _ _ _ (o1.tr (o3.tr (OT.oi Oi.up))) (t3.img Oi.up (t3.1.cnt1 hn _)) (by dsimp only; rw [(lo_same (by omega)).1, hmn]) hp⟩
theorem mn_filF {l b m : Nat} (hm : m < 64) (S : St) : ∀ k, k ≤ 4 → mn (filF S l b m k) = mn S
  | 0, _ => rfl
  | k + 1, h => by
    unfold filF
    rw [(lo_same (by omega)).1]
    exact mn_filF hm S k (by omega)
theorem own_lt (L l i : Nat) (σ : Sg) : (own L l i σ).1 < 64 := by
  unfold own
  split
  · exact tb_lt _ _ _
  · exact ncl_lt _
theorem mn_own {l i : Nat} (hi : 4 * l + i < 56) (σ : Sg) : mn (own L l i σ).2.1 = mn σ.1 := by
  have hn := ncl_lt σ
  unfold own
  split
  · rfl
  · dsimp only
    unfold own2
    rw [mn_addc _ _ (tb_lt _ _ _), mn_gt (fun S => by unfold mn; rw [pk_un (by omega)]), mn_incF, mn_gt (fun S => mn_cp4 hn S), mn_gt (fun S => (lo_same (by omega)).1), ncl_S]
theorem k_writePlace {l pl : Nat} {v : Int32} {p : mH → Prop} (hT : TR h L σ) (hl : l < mn σ.1) (hpl : pl < 64) (hp : ∀ h', OT h h' → TR h' L (wpl L l pl v σ) → p h') : mU (Kd sL (d + 4)) 44 [.inr (.inr (.inr 2)), .inl (nI l), .inl (nI pl), .inl v] h p := by
  refine ke_X2_writePlace ?_
  refine EX.go (Kd_mono _ _) [false, false, true, false, false, true, false, false, false, false, false, true, false, false] 40 0 ?_
  dsimp only [wpc_s, wsl_t, wsl_f, gD_0, gD_s, ↓denB_n, pI_s, pG_s, pU_n, cb_X2_writePlace_0, cb_X2_writePlace_1, cb_X2_writePlace_2, cb_X2_writePlace_3, cb_X2_writePlace_4, cb_X2_writePlace_5, cb_X2_writePlace_6, cb_X2_writePlace_7, cb_X2_writePlace_8, cb_X2_writePlace_9, cb_X2_writePlace_10, cb_X2_writePlace_11, cb_X2_writePlace_12, cb_X2_writePlace_13, ↓ev_iload_n_2, ↓ev_iconst_4, ↓ev_idiv, ↓ev_istore_4, ↓ev_aload_n_0, ↓ev_iload_n_1, ↓ev_iload_4, ↓ev_callv_3_0_1, ↓ev_callv_3_1_1, ↓ev_callv_3_2_1, ↓ev_callv_3_3_1, ↓ev_callv_3_4_1, ↓ev_callv_3_5_1, ↓ev_istore_5, ↓ev_getf_2_0, ↓ev_iload_5, ↓ev_irem, ↓ev_istore_6, ↓ev_iload_6, ↓ev_if_eq, ↓ev_getf_0_1, ↓ev_iald_m1, ↓ev_iald_m2, ↓ev_iald_m3, ↓ev_iald_m4, ↓ev_iald_m5, ↓ev_iald_m6, ↓ev_iald_o3, ↓ev_iconst_1, ↓ev_icmp_le, ↓ev_istore_7, ↓ev_callv_1_0_1, ↓ev_callv_1_1_1, ↓ev_callv_1_2_1, ↓ev_callv_1_3_1, ↓ev_callv_1_4_1, ↓ev_iast_m1, ↓ev_iast_m2, ↓ev_iast_m3, ↓ev_iast_m4, ↓ev_iast_m5, ↓ev_iast_m6, ↓ev_iast_o3, ↓ev_istore_8, ↓ev_iconst_0, ↓ev_istore_9, ↓ev_iload_9, ↓ev_icmp_ge, ↓ev_iload_8, ↓ev_getf_0_0, ↓ev_imul, ↓ev_iadd, ↓ev_iinc_9_1, ↓ev_goto, ↓ev_iload_7, ↓ev_iconst_m1, ↓ev_callv_3_0_0, ↓ev_callv_3_1_0, ↓ev_callv_3_2_0, ↓ev_callv_3_3_0, ↓ev_callv_3_4_0, ↓ev_iload_n_3, ↓ev_ret, Nat.reduceAdd]
  try simp (disch := omega) only [pk_mul, nI_add, n_lt0, n_le0, n_eq0, n_ge0, n_gt0, n_lt, n_le, n_eq, n_in, n_div, n_rem, n_rem2, n_m1, nI_clamp, bz_0, bz_1, tI_0, tI_bz, n4, n16, eq_self, Nat.reduceLT, Nat.reduceLeDiff, Nat.reduceEqDiff, Nat.reduceAdd, Nat.reduceMul, Nat.reduceDiv, Nat.reduceMod, Nat.le_refl, decide_eq_false_iff_not, Classical.not_not, true_and, and_true, false_and, and_false, not_true_eq_false, not_false_eq_true, forall_const, true_implies, false_implies, implies_true, ne_eq]
  refine k_ownTable hT hl (by omega) (fun h1 o1 t1 => ?_)
  unfold wpl at hp
  have hml : mn (own L l (pl / 4 / 4) σ).2.1 = mn σ.1 := mn_own (by have := hT.1.2.2.2.2.2.2.1; omega) σ
  have htl := own_lt L l (pl / 4 / 4) σ
  generalize own L l (pl / 4 / 4) σ = q at hp t1 hml htl ⊢
  obtain ⟨t, σ1⟩ := q
  dsimp only at hp t1 hml htl ⊢
  refine k_dataAt t1.1 htl (by omega) ?_
  have hdl := dt_lt σ1.1 t (pl / 4 % 4)
  have e : h1 (.inl (2, 2)) (dt σ1.1 t (pl / 4 % 4)) = σ1.1 (dt σ1.1 t (pl / 4 % 4)) := t1.1.2.1 _ hdl
  try simp (disch := omega) only [pk_mul, nI_add, n_lt0, n_le0, n_eq0, n_ge0, n_gt0, n_lt, n_le, n_eq, n_in, n_div, n_rem, n_rem2, n_m1, nI_clamp, bz_0, bz_1, tI_0, tI_bz, n4, n16, eq_self, Nat.reduceLT, Nat.reduceLeDiff, Nat.reduceEqDiff, Nat.reduceAdd, Nat.reduceMul, Nat.reduceDiv, Nat.reduceMod, Nat.le_refl, decide_eq_false_iff_not, Classical.not_not, true_and, and_true, false_and, and_false, not_true_eq_false, not_false_eq_true, forall_const, true_implies, false_implies, implies_true, ne_eq, e]
  unfold wp1 at hp
  generalize hda : dt σ1.1 t (pl / 4 % 4) = da at hp hdl e ⊢
  have J11 : ∀ (h2 : mH) (σ2 : Sg) (m : Nat) (o7 o8 o9 : Option mV), m < 64 → OT h h2 → TR h2 L σ2 → (∀ h', OT h h' → TR h' L (gt L (fun S => upd S (64 + (4 * m + pl % 4)) v) σ2) → p h') → EX (Kd sL (d + 3)) sL md_X2_writePlace (pU p) 11 [some (.inr (.inr (.inr 2))), some (.inl (nI l)), some (.inl (nI pl)), some (.inl v), some (.inl (nI (pl / 4))), some (.inl (nI t)), some (.inl (nI m)), o7, o8, o9] [] h2 := by
    intro h2 σ2 m o7 o8 o9 hm o2 t2 hp
    refine EX.go (Kd_mono _ _) [false, false, false, false, false, true, false, false, true, false, false, false, false, false] 40 11 ?_
    dsimp only [wpc_s, wsl_t, wsl_f, gD_0, gD_s, ↓denB_n, pI_s, pG_s, pU_n, cb_X2_writePlace_0, cb_X2_writePlace_1, cb_X2_writePlace_2, cb_X2_writePlace_3, cb_X2_writePlace_4, cb_X2_writePlace_5, cb_X2_writePlace_6, cb_X2_writePlace_7, cb_X2_writePlace_8, cb_X2_writePlace_9, cb_X2_writePlace_10, cb_X2_writePlace_11, cb_X2_writePlace_12, cb_X2_writePlace_13, ↓ev_iload_n_2, ↓ev_iconst_4, ↓ev_idiv, ↓ev_istore_4, ↓ev_aload_n_0, ↓ev_iload_n_1, ↓ev_iload_4, ↓ev_callv_3_0_1, ↓ev_callv_3_1_1, ↓ev_callv_3_2_1, ↓ev_callv_3_3_1, ↓ev_callv_3_4_1, ↓ev_callv_3_5_1, ↓ev_istore_5, ↓ev_getf_2_0, ↓ev_iload_5, ↓ev_irem, ↓ev_istore_6, ↓ev_iload_6, ↓ev_if_eq, ↓ev_getf_0_1, ↓ev_iald_m1, ↓ev_iald_m2, ↓ev_iald_m3, ↓ev_iald_m4, ↓ev_iald_m5, ↓ev_iald_m6, ↓ev_iald_o3, ↓ev_iconst_1, ↓ev_icmp_le, ↓ev_istore_7, ↓ev_callv_1_0_1, ↓ev_callv_1_1_1, ↓ev_callv_1_2_1, ↓ev_callv_1_3_1, ↓ev_callv_1_4_1, ↓ev_iast_m1, ↓ev_iast_m2, ↓ev_iast_m3, ↓ev_iast_m4, ↓ev_iast_m5, ↓ev_iast_m6, ↓ev_iast_o3, ↓ev_istore_8, ↓ev_iconst_0, ↓ev_istore_9, ↓ev_iload_9, ↓ev_icmp_ge, ↓ev_iload_8, ↓ev_getf_0_0, ↓ev_imul, ↓ev_iadd, ↓ev_iinc_9_1, ↓ev_goto, ↓ev_iload_7, ↓ev_iconst_m1, ↓ev_callv_3_0_0, ↓ev_callv_3_1_0, ↓ev_callv_3_2_0, ↓ev_callv_3_3_0, ↓ev_callv_3_4_0, ↓ev_iload_n_3, ↓ev_ret, Nat.reduceAdd]
    refine k_step t2 (fun h3 o3 t3 hn => ?_) (fun h3 o3 z0 z1 t3 => ?_)
    · rw [gt_no hn] at hp
      exact ⟨fun _ => hp h3 (o2.tr o3) t3, fun c2 => absurd rfl c2⟩
    · rw [gt_yes z0 z1] at hp
      refine ⟨fun c2 => absurd c2 (by decide), fun _ => ?_⟩
      try simp (disch := omega) only [pk_mul, nI_add, n_lt0, n_le0, n_eq0, n_ge0, n_gt0, n_lt, n_le, n_eq, n_in, n_div, n_rem, n_rem2, n_m1, nI_clamp, bz_0, bz_1, tI_0, tI_bz, n4, n16, eq_self, Nat.reduceLT, Nat.reduceLeDiff, Nat.reduceEqDiff, Nat.reduceAdd, Nat.reduceMul, Nat.reduceDiv, Nat.reduceMod, Nat.le_refl, decide_eq_false_iff_not, Classical.not_not, true_and, and_true, false_and, and_false, not_true_eq_false, not_false_eq_true, forall_const, true_implies, false_implies, implies_true, ne_eq]
      refine ⟨by omega, hp _ (o2.tr (o3.tr (OT.oi Oi.up))) ?_⟩
      rw [show m * 4 + pl % 4 = 4 * m + pl % 4 by omega]
      exact t3.img Oi.up (t3.1.cel1 (by omega) _)
  suffices H : (da = 0 ∨ ¬ σ1.1 da ≤ nI 1) → EX (Kd sL (d + 3)) sL md_X2_writePlace (pU p) 2 [some (.inr (.inr (.inr 2))), some (.inl (nI l)), some (.inl (nI pl)), some (.inl v), some (.inl (nI (pl / 4))), some (.inl (nI t)), some (.inl (nI da)), none, none, none] [] h1 by
    refine ⟨fun c => H (Or.inl c), fun c => ⟨hdl, fun c2 => ?_, fun c2 => H (Or.inr c2)⟩⟩
    rw [if_neg (fun z => z.elim c (fun z => z c2))] at hp
    exact J11 h1 σ1 da _ _ _ hdl o1 t1 hp
  intro hcase
  rw [if_pos hcase] at hp
  clear hcase e hda
  refine EX.go (Kd_mono _ _) [false, false, false, false, true, true, false, false, false, false, false, false, false, false] 40 2 ?_
  dsimp only [wpc_s, wsl_t, wsl_f, gD_0, gD_s, ↓denB_n, pI_s, pG_s, pU_n, cb_X2_writePlace_0, cb_X2_writePlace_1, cb_X2_writePlace_2, cb_X2_writePlace_3, cb_X2_writePlace_4, cb_X2_writePlace_5, cb_X2_writePlace_6, cb_X2_writePlace_7, cb_X2_writePlace_8, cb_X2_writePlace_9, cb_X2_writePlace_10, cb_X2_writePlace_11, cb_X2_writePlace_12, cb_X2_writePlace_13, ↓ev_iload_n_2, ↓ev_iconst_4, ↓ev_idiv, ↓ev_istore_4, ↓ev_aload_n_0, ↓ev_iload_n_1, ↓ev_iload_4, ↓ev_callv_3_0_1, ↓ev_callv_3_1_1, ↓ev_callv_3_2_1, ↓ev_callv_3_3_1, ↓ev_callv_3_4_1, ↓ev_callv_3_5_1, ↓ev_istore_5, ↓ev_getf_2_0, ↓ev_iload_5, ↓ev_irem, ↓ev_istore_6, ↓ev_iload_6, ↓ev_if_eq, ↓ev_getf_0_1, ↓ev_iald_m1, ↓ev_iald_m2, ↓ev_iald_m3, ↓ev_iald_m4, ↓ev_iald_m5, ↓ev_iald_m6, ↓ev_iald_o3, ↓ev_iconst_1, ↓ev_icmp_le, ↓ev_istore_7, ↓ev_callv_1_0_1, ↓ev_callv_1_1_1, ↓ev_callv_1_2_1, ↓ev_callv_1_3_1, ↓ev_callv_1_4_1, ↓ev_iast_m1, ↓ev_iast_m2, ↓ev_iast_m3, ↓ev_iast_m4, ↓ev_iast_m5, ↓ev_iast_m6, ↓ev_iast_o3, ↓ev_istore_8, ↓ev_iconst_0, ↓ev_istore_9, ↓ev_iload_9, ↓ev_icmp_ge, ↓ev_iload_8, ↓ev_getf_0_0, ↓ev_imul, ↓ev_iadd, ↓ev_iinc_9_1, ↓ev_goto, ↓ev_iload_7, ↓ev_iconst_m1, ↓ev_callv_3_0_0, ↓ev_callv_3_1_0, ↓ev_callv_3_2_0, ↓ev_callv_3_3_0, ↓ev_callv_3_4_0, ↓ev_iload_n_3, ↓ev_ret, Nat.reduceAdd]
  refine k_newCluster t1 (fun h2 o2 t2 => ?_)
  have hnl := ncl_lt σ1
  have hmn : mn (ncl σ1).2.1 = mn σ.1 := by rw [ncl_S, hml]
  generalize ncl σ1 = q at hp t2 hnl hmn ⊢
  obtain ⟨m, σ2⟩ := q
  dsimp only at hp t2 hnl hmn ⊢
  unfold wp2 at hp
  have J8 : ∀ (h3 : mH) (σ3 : Sg) (o8 o9 : Option mV), OT h h3 → TR h3 L σ3 → (∀ h', OT h h' → TR h' L (gt L (fun S => upd S (64 + (4 * m + pl % 4)) v) (addc L da (-1) (gt L (fun S => upd S (64 + (4 * t + pl / 4 % 4)) (nI m)) σ3))) → p h') → EX (Kd sL (d + 3)) sL md_X2_writePlace (pU p) 8 [some (.inr (.inr (.inr 2))), some (.inl (nI l)), some (.inl (nI pl)), some (.inl v), some (.inl (nI (pl / 4))), some (.inl (nI t)), some (.inl (nI m)), some (.inl (nI da)), o8, o9] [] h3 := by
    intro h3 σ3 o8 o9 o3 t3 hp
    have J10 : ∀ (h3 : mH) (σ3 : Sg), OT h h3 → TR h3 L σ3 → (∀ h', OT h h' → TR h' L (gt L (fun S => upd S (64 + (4 * m + pl % 4)) v) (addc L da (-1) σ3)) → p h') → EX (Kd sL (d + 3)) sL md_X2_writePlace (pU p) 10 [some (.inr (.inr (.inr 2))), some (.inl (nI l)), some (.inl (nI pl)), some (.inl v), some (.inl (nI (pl / 4))), some (.inl (nI t)), some (.inl (nI m)), some (.inl (nI da)), o8, o9] [] h3 := by
      intro h3 σ3 o3 t3 hp
      refine EX.go (Kd_mono _ _) [false, false, false, false, false, true, false, false, false, false, false, true, false, false] 40 10 ?_
      dsimp only [wpc_s, wsl_t, wsl_f, gD_0, gD_s, ↓denB_n, pI_s, pG_s, pU_n, cb_X2_writePlace_0, cb_X2_writePlace_1, cb_X2_writePlace_2, cb_X2_writePlace_3, cb_X2_writePlace_4, cb_X2_writePlace_5, cb_X2_writePlace_6, cb_X2_writePlace_7, cb_X2_writePlace_8, cb_X2_writePlace_9, cb_X2_writePlace_10, cb_X2_writePlace_11, cb_X2_writePlace_12, cb_X2_writePlace_13, ↓ev_iload_n_2, ↓ev_iconst_4, ↓ev_idiv, ↓ev_istore_4, ↓ev_aload_n_0, ↓ev_iload_n_1, ↓ev_iload_4, ↓ev_callv_3_0_1, ↓ev_callv_3_1_1, ↓ev_callv_3_2_1, ↓ev_callv_3_3_1, ↓ev_callv_3_4_1, ↓ev_callv_3_5_1, ↓ev_istore_5, ↓ev_getf_2_0, ↓ev_iload_5, ↓ev_irem, ↓ev_istore_6, ↓ev_iload_6, ↓ev_if_eq, ↓ev_getf_0_1, ↓ev_iald_m1, ↓ev_iald_m2, ↓ev_iald_m3, ↓ev_iald_m4, ↓ev_iald_m5, ↓ev_iald_m6, ↓ev_iald_o3, ↓ev_iconst_1, ↓ev_icmp_le, ↓ev_istore_7, ↓ev_callv_1_0_1, ↓ev_callv_1_1_1, ↓ev_callv_1_2_1, ↓ev_callv_1_3_1, ↓ev_callv_1_4_1, ↓ev_iast_m1, ↓ev_iast_m2, ↓ev_iast_m3, ↓ev_iast_m4, ↓ev_iast_m5, ↓ev_iast_m6, ↓ev_iast_o3, ↓ev_istore_8, ↓ev_iconst_0, ↓ev_istore_9, ↓ev_iload_9, ↓ev_icmp_ge, ↓ev_iload_8, ↓ev_getf_0_0, ↓ev_imul, ↓ev_iadd, ↓ev_iinc_9_1, ↓ev_goto, ↓ev_iload_7, ↓ev_iconst_m1, ↓ev_callv_3_0_0, ↓ev_callv_3_1_0, ↓ev_callv_3_2_0, ↓ev_callv_3_3_0, ↓ev_callv_3_4_0, ↓ev_iload_n_3, ↓ev_ret, Nat.reduceAdd]
      refine k_addToCount t3 hdl (fun h4 o4 t4 => ?_)
      exact J11 h4 _ m _ _ _ hnl (o3.tr o4) t4 hp
    refine EX.go (Kd_mono _ _) [false, false, false, false, false, true, false, false, false, false, true, false, false, false] 40 8 ?_
    dsimp only [wpc_s, wsl_t, wsl_f, gD_0, gD_s, ↓denB_n, pI_s, pG_s, pU_n, cb_X2_writePlace_0, cb_X2_writePlace_1, cb_X2_writePlace_2, cb_X2_writePlace_3, cb_X2_writePlace_4, cb_X2_writePlace_5, cb_X2_writePlace_6, cb_X2_writePlace_7, cb_X2_writePlace_8, cb_X2_writePlace_9, cb_X2_writePlace_10, cb_X2_writePlace_11, cb_X2_writePlace_12, cb_X2_writePlace_13, ↓ev_iload_n_2, ↓ev_iconst_4, ↓ev_idiv, ↓ev_istore_4, ↓ev_aload_n_0, ↓ev_iload_n_1, ↓ev_iload_4, ↓ev_callv_3_0_1, ↓ev_callv_3_1_1, ↓ev_callv_3_2_1, ↓ev_callv_3_3_1, ↓ev_callv_3_4_1, ↓ev_callv_3_5_1, ↓ev_istore_5, ↓ev_getf_2_0, ↓ev_iload_5, ↓ev_irem, ↓ev_istore_6, ↓ev_iload_6, ↓ev_if_eq, ↓ev_getf_0_1, ↓ev_iald_m1, ↓ev_iald_m2, ↓ev_iald_m3, ↓ev_iald_m4, ↓ev_iald_m5, ↓ev_iald_m6, ↓ev_iald_o3, ↓ev_iconst_1, ↓ev_icmp_le, ↓ev_istore_7, ↓ev_callv_1_0_1, ↓ev_callv_1_1_1, ↓ev_callv_1_2_1, ↓ev_callv_1_3_1, ↓ev_callv_1_4_1, ↓ev_iast_m1, ↓ev_iast_m2, ↓ev_iast_m3, ↓ev_iast_m4, ↓ev_iast_m5, ↓ev_iast_m6, ↓ev_iast_o3, ↓ev_istore_8, ↓ev_iconst_0, ↓ev_istore_9, ↓ev_iload_9, ↓ev_icmp_ge, ↓ev_iload_8, ↓ev_getf_0_0, ↓ev_imul, ↓ev_iadd, ↓ev_iinc_9_1, ↓ev_goto, ↓ev_iload_7, ↓ev_iconst_m1, ↓ev_callv_3_0_0, ↓ev_callv_3_1_0, ↓ev_callv_3_2_0, ↓ev_callv_3_3_0, ↓ev_callv_3_4_0, ↓ev_iload_n_3, ↓ev_ret, Nat.reduceAdd]
    refine k_step t3 (fun h4 o4 t4 hn => ?_) (fun h4 o4 z0 z1 t4 => ?_)
    · rw [gt_no hn] at hp
      exact ⟨fun _ => J10 h4 _ (o3.tr o4) t4 hp, fun c2 => absurd rfl c2⟩
    · rw [gt_yes z0 z1] at hp
      refine ⟨fun c2 => absurd c2 (by decide), fun _ => ?_⟩
      try simp (disch := omega) only [pk_mul, nI_add, n_lt0, n_le0, n_eq0, n_ge0, n_gt0, n_lt, n_le, n_eq, n_in, n_div, n_rem, n_rem2, n_m1, nI_clamp, bz_0, bz_1, tI_0, tI_bz, n4, n16, eq_self, Nat.reduceLT, Nat.reduceLeDiff, Nat.reduceEqDiff, Nat.reduceAdd, Nat.reduceMul, Nat.reduceDiv, Nat.reduceMod, Nat.le_refl, decide_eq_false_iff_not, Classical.not_not, true_and, and_true, false_and, and_false, not_true_eq_false, not_false_eq_true, forall_const, true_implies, false_implies, implies_true, ne_eq]
      refine ⟨by omega, J10 _ _ (o3.tr (o4.tr (OT.oi Oi.up))) ?_ hp⟩
      rw [show t * 4 + pl / 4 % 4 = 4 * t + pl / 4 % 4 by omega]
      exact t4.img Oi.up (t4.1.cel1 (by omega) _)
  have J4 : ∀ (h3 : mH) (σ3 : Sg) (o8 o9 : Option mV), OT h h3 → TR h3 L σ3 → mn σ3.1 = mn σ.1 → (∀ h', OT h h' → TR h' L (gt L (fun S => upd S (64 + (4 * m + pl % 4)) v) (addc L da (-1) (gt L (fun S => upd S (64 + (4 * t + pl / 4 % 4)) (nI m)) (gt L (fun S => filF S l (pl / 4) m 4) σ3)))) → p h') → EX (Kd sL (d + 3)) sL md_X2_writePlace (pU p) 4 [some (.inr (.inr (.inr 2))), some (.inl (nI l)), some (.inl (nI pl)), some (.inl v), some (.inl (nI (pl / 4))), some (.inl (nI t)), some (.inl (nI m)), some (.inl (nI da)), o8, o9] [] h3 := by
    intro h3 σ3 o8 o9 o3 t3 hm3 hp
    refine EX.go (Kd_mono _ _) [false, false, false, false, false, true, false, false, true, false, false, false, false, false] 40 4 ?_
    dsimp only [wpc_s, wsl_t, wsl_f, gD_0, gD_s, ↓denB_n, pI_s, pG_s, pU_n, cb_X2_writePlace_0, cb_X2_writePlace_1, cb_X2_writePlace_2, cb_X2_writePlace_3, cb_X2_writePlace_4, cb_X2_writePlace_5, cb_X2_writePlace_6, cb_X2_writePlace_7, cb_X2_writePlace_8, cb_X2_writePlace_9, cb_X2_writePlace_10, cb_X2_writePlace_11, cb_X2_writePlace_12, cb_X2_writePlace_13, ↓ev_iload_n_2, ↓ev_iconst_4, ↓ev_idiv, ↓ev_istore_4, ↓ev_aload_n_0, ↓ev_iload_n_1, ↓ev_iload_4, ↓ev_callv_3_0_1, ↓ev_callv_3_1_1, ↓ev_callv_3_2_1, ↓ev_callv_3_3_1, ↓ev_callv_3_4_1, ↓ev_callv_3_5_1, ↓ev_istore_5, ↓ev_getf_2_0, ↓ev_iload_5, ↓ev_irem, ↓ev_istore_6, ↓ev_iload_6, ↓ev_if_eq, ↓ev_getf_0_1, ↓ev_iald_m1, ↓ev_iald_m2, ↓ev_iald_m3, ↓ev_iald_m4, ↓ev_iald_m5, ↓ev_iald_m6, ↓ev_iald_o3, ↓ev_iconst_1, ↓ev_icmp_le, ↓ev_istore_7, ↓ev_callv_1_0_1, ↓ev_callv_1_1_1, ↓ev_callv_1_2_1, ↓ev_callv_1_3_1, ↓ev_callv_1_4_1, ↓ev_iast_m1, ↓ev_iast_m2, ↓ev_iast_m3, ↓ev_iast_m4, ↓ev_iast_m5, ↓ev_iast_m6, ↓ev_iast_o3, ↓ev_istore_8, ↓ev_iconst_0, ↓ev_istore_9, ↓ev_iload_9, ↓ev_icmp_ge, ↓ev_iload_8, ↓ev_getf_0_0, ↓ev_imul, ↓ev_iadd, ↓ev_iinc_9_1, ↓ev_goto, ↓ev_iload_7, ↓ev_iconst_m1, ↓ev_callv_3_0_0, ↓ev_callv_3_1_0, ↓ev_callv_3_2_0, ↓ev_callv_3_3_0, ↓ev_callv_3_4_0, ↓ev_iload_n_3, ↓ev_ret, Nat.reduceAdd]
    refine k_step t3 (fun h4 o4 t4 hn => ?_) (fun h4 o4 z0 z1 t4 => ?_)
    · rw [gt_no hn] at hp
      refine EX.go (Kd_mono _ _) [false, false, false, false, false, true, false, false, true, false, false, false, false, false] 40 5 ?_
      dsimp only [wpc_s, wsl_t, wsl_f, gD_0, gD_s, ↓denB_n, pI_s, pG_s, pU_n, cb_X2_writePlace_0, cb_X2_writePlace_1, cb_X2_writePlace_2, cb_X2_writePlace_3, cb_X2_writePlace_4, cb_X2_writePlace_5, cb_X2_writePlace_6, cb_X2_writePlace_7, cb_X2_writePlace_8, cb_X2_writePlace_9, cb_X2_writePlace_10, cb_X2_writePlace_11, cb_X2_writePlace_12, cb_X2_writePlace_13, ↓ev_iload_n_2, ↓ev_iconst_4, ↓ev_idiv, ↓ev_istore_4, ↓ev_aload_n_0, ↓ev_iload_n_1, ↓ev_iload_4, ↓ev_callv_3_0_1, ↓ev_callv_3_1_1, ↓ev_callv_3_2_1, ↓ev_callv_3_3_1, ↓ev_callv_3_4_1, ↓ev_callv_3_5_1, ↓ev_istore_5, ↓ev_getf_2_0, ↓ev_iload_5, ↓ev_irem, ↓ev_istore_6, ↓ev_iload_6, ↓ev_if_eq, ↓ev_getf_0_1, ↓ev_iald_m1, ↓ev_iald_m2, ↓ev_iald_m3, ↓ev_iald_m4, ↓ev_iald_m5, ↓ev_iald_m6, ↓ev_iald_o3, ↓ev_iconst_1, ↓ev_icmp_le, ↓ev_istore_7, ↓ev_callv_1_0_1, ↓ev_callv_1_1_1, ↓ev_callv_1_2_1, ↓ev_callv_1_3_1, ↓ev_callv_1_4_1, ↓ev_iast_m1, ↓ev_iast_m2, ↓ev_iast_m3, ↓ev_iast_m4, ↓ev_iast_m5, ↓ev_iast_m6, ↓ev_iast_o3, ↓ev_istore_8, ↓ev_iconst_0, ↓ev_istore_9, ↓ev_iload_9, ↓ev_icmp_ge, ↓ev_iload_8, ↓ev_getf_0_0, ↓ev_imul, ↓ev_iadd, ↓ev_iinc_9_1, ↓ev_goto, ↓ev_iload_7, ↓ev_iconst_m1, ↓ev_callv_3_0_0, ↓ev_callv_3_1_0, ↓ev_callv_3_2_0, ↓ev_callv_3_3_0, ↓ev_callv_3_4_0, ↓ev_iload_n_3, ↓ev_ret, Nat.reduceAdd]
      try simp (disch := omega) only [pk_mul, nI_add, n_lt0, n_le0, n_eq0, n_ge0, n_gt0, n_lt, n_le, n_eq, n_in, n_div, n_rem, n_rem2, n_m1, nI_clamp, bz_0, bz_1, tI_0, tI_bz, n4, n16, eq_self, Nat.reduceLT, Nat.reduceLeDiff, Nat.reduceEqDiff, Nat.reduceAdd, Nat.reduceMul, Nat.reduceDiv, Nat.reduceMod, Nat.le_refl, decide_eq_false_iff_not, Classical.not_not, true_and, and_true, false_and, and_false, not_true_eq_false, not_false_eq_true, forall_const, true_implies, false_implies, implies_true, ne_eq]
      exact J8 h4 _ _ _ (o3.tr o4) t4 hp
    · rw [gt_yes z0 z1] at hp
      suffices H : ∀ (f k : Nat) (h5 : mH), k + f = 4 → OT h h5 → TR h5 L (filF σ3.1 l (pl / 4) m k, σ3.2.1 + 1, 0) → EX (Kd sL (d + 3)) sL md_X2_writePlace (pU p) 5 [some (.inr (.inr (.inr 2))), some (.inl (nI l)), some (.inl (nI pl)), some (.inl v), some (.inl (nI (pl / 4))), some (.inl (nI t)), some (.inl (nI m)), some (.inl (nI da)), some (.inl (nI 1)), some (.inl (nI k))] [] h5 from H 4 0 h4 rfl (o3.tr o4) t4
      intro f
      induction f with
      | zero =>
        intro k h5 hk o5 t5
        refine EX.go (Kd_mono _ _) [false, false, false, false, false, true, false, false, true, false, false, false, false, false] 40 5 ?_
        dsimp only [wpc_s, wsl_t, wsl_f, gD_0, gD_s, ↓denB_n, pI_s, pG_s, pU_n, cb_X2_writePlace_0, cb_X2_writePlace_1, cb_X2_writePlace_2, cb_X2_writePlace_3, cb_X2_writePlace_4, cb_X2_writePlace_5, cb_X2_writePlace_6, cb_X2_writePlace_7, cb_X2_writePlace_8, cb_X2_writePlace_9, cb_X2_writePlace_10, cb_X2_writePlace_11, cb_X2_writePlace_12, cb_X2_writePlace_13, ↓ev_iload_n_2, ↓ev_iconst_4, ↓ev_idiv, ↓ev_istore_4, ↓ev_aload_n_0, ↓ev_iload_n_1, ↓ev_iload_4, ↓ev_callv_3_0_1, ↓ev_callv_3_1_1, ↓ev_callv_3_2_1, ↓ev_callv_3_3_1, ↓ev_callv_3_4_1, ↓ev_callv_3_5_1, ↓ev_istore_5, ↓ev_getf_2_0, ↓ev_iload_5, ↓ev_irem, ↓ev_istore_6, ↓ev_iload_6, ↓ev_if_eq, ↓ev_getf_0_1, ↓ev_iald_m1, ↓ev_iald_m2, ↓ev_iald_m3, ↓ev_iald_m4, ↓ev_iald_m5, ↓ev_iald_m6, ↓ev_iald_o3, ↓ev_iconst_1, ↓ev_icmp_le, ↓ev_istore_7, ↓ev_callv_1_0_1, ↓ev_callv_1_1_1, ↓ev_callv_1_2_1, ↓ev_callv_1_3_1, ↓ev_callv_1_4_1, ↓ev_iast_m1, ↓ev_iast_m2, ↓ev_iast_m3, ↓ev_iast_m4, ↓ev_iast_m5, ↓ev_iast_m6, ↓ev_iast_o3, ↓ev_istore_8, ↓ev_iconst_0, ↓ev_istore_9, ↓ev_iload_9, ↓ev_icmp_ge, ↓ev_iload_8, ↓ev_getf_0_0, ↓ev_imul, ↓ev_iadd, ↓ev_iinc_9_1, ↓ev_goto, ↓ev_iload_7, ↓ev_iconst_m1, ↓ev_callv_3_0_0, ↓ev_callv_3_1_0, ↓ev_callv_3_2_0, ↓ev_callv_3_3_0, ↓ev_callv_3_4_0, ↓ev_iload_n_3, ↓ev_ret, Nat.reduceAdd]
        try simp (disch := omega) only [pk_mul, nI_add, n_lt0, n_le0, n_eq0, n_ge0, n_gt0, n_lt, n_le, n_eq, n_in, n_div, n_rem, n_rem2, n_m1, nI_clamp, bz_0, bz_1, tI_0, tI_bz, n4, n16, eq_self, Nat.reduceLT, Nat.reduceLeDiff, Nat.reduceEqDiff, Nat.reduceAdd, Nat.reduceMul, Nat.reduceDiv, Nat.reduceMod, Nat.le_refl, decide_eq_false_iff_not, Classical.not_not, true_and, and_true, false_and, and_false, not_true_eq_false, not_false_eq_true, forall_const, true_implies, false_implies, implies_true, ne_eq]
        rw [show k = 4 by omega] at t5
        exact ⟨fun _ => J8 h5 _ _ _ o5 t5 hp, fun c2 => absurd (show 4 ≤ k by omega) c2⟩
      | succ f ih =>
        intro k h5 hk o5 t5
        refine EX.go (Kd_mono _ _) [false, false, false, false, false, true, false, false, true, false, false, false, false, false] 40 5 ?_
        dsimp only [wpc_s, wsl_t, wsl_f, gD_0, gD_s, ↓denB_n, pI_s, pG_s, pU_n, cb_X2_writePlace_0, cb_X2_writePlace_1, cb_X2_writePlace_2, cb_X2_writePlace_3, cb_X2_writePlace_4, cb_X2_writePlace_5, cb_X2_writePlace_6, cb_X2_writePlace_7, cb_X2_writePlace_8, cb_X2_writePlace_9, cb_X2_writePlace_10, cb_X2_writePlace_11, cb_X2_writePlace_12, cb_X2_writePlace_13, ↓ev_iload_n_2, ↓ev_iconst_4, ↓ev_idiv, ↓ev_istore_4, ↓ev_aload_n_0, ↓ev_iload_n_1, ↓ev_iload_4, ↓ev_callv_3_0_1, ↓ev_callv_3_1_1, ↓ev_callv_3_2_1, ↓ev_callv_3_3_1, ↓ev_callv_3_4_1, ↓ev_callv_3_5_1, ↓ev_istore_5, ↓ev_getf_2_0, ↓ev_iload_5, ↓ev_irem, ↓ev_istore_6, ↓ev_iload_6, ↓ev_if_eq, ↓ev_getf_0_1, ↓ev_iald_m1, ↓ev_iald_m2, ↓ev_iald_m3, ↓ev_iald_m4, ↓ev_iald_m5, ↓ev_iald_m6, ↓ev_iald_o3, ↓ev_iconst_1, ↓ev_icmp_le, ↓ev_istore_7, ↓ev_callv_1_0_1, ↓ev_callv_1_1_1, ↓ev_callv_1_2_1, ↓ev_callv_1_3_1, ↓ev_callv_1_4_1, ↓ev_iast_m1, ↓ev_iast_m2, ↓ev_iast_m3, ↓ev_iast_m4, ↓ev_iast_m5, ↓ev_iast_m6, ↓ev_iast_o3, ↓ev_istore_8, ↓ev_iconst_0, ↓ev_istore_9, ↓ev_iload_9, ↓ev_icmp_ge, ↓ev_iload_8, ↓ev_getf_0_0, ↓ev_imul, ↓ev_iadd, ↓ev_iinc_9_1, ↓ev_goto, ↓ev_iload_7, ↓ev_iconst_m1, ↓ev_callv_3_0_0, ↓ev_callv_3_1_0, ↓ev_callv_3_2_0, ↓ev_callv_3_3_0, ↓ev_callv_3_4_0, ↓ev_iload_n_3, ↓ev_ret, Nat.reduceAdd]
        try simp (disch := omega) only [pk_mul, nI_add, n_lt0, n_le0, n_eq0, n_ge0, n_gt0, n_lt, n_le, n_eq, n_in, n_div, n_rem, n_rem2, n_m1, nI_clamp, bz_0, bz_1, tI_0, tI_bz, n4, n16, eq_self, Nat.reduceLT, Nat.reduceLeDiff, Nat.reduceEqDiff, Nat.reduceAdd, Nat.reduceMul, Nat.reduceDiv, Nat.reduceMod, Nat.le_refl, decide_eq_false_iff_not, Classical.not_not, true_and, and_true, false_and, and_false, not_true_eq_false, not_false_eq_true, forall_const, true_implies, false_implies, implies_true, ne_eq]
        refine ⟨fun c2 => absurd c2 (by omega), fun _ => ?_⟩
        refine k_at t5.1 (by omega) ?_
        refine ⟨by omega, ih (k + 1) _ (by omega) (o5.tr (OT.oi Oi.up)) ?_⟩
        rw [filF, show m * 4 + k = 4 * m + k by omega, show pl / 4 * 4 + k = 4 * (pl / 4) + k by omega]
        exact t5.img Oi.up (t5.1.cel1 (by omega) _)
  refine k_step t2 (fun h3 o3 t3 hn' => ?_) (fun h3 o3 z0 z1 t3 => ?_)
  · rw [gt_no hn'] at hp
    exact ⟨fun _ => J4 h3 _ _ _ (o1.tr (o2.tr o3)) t3 ((mn_gt (fun _ => rfl) σ2).trans hmn) hp, fun c2 => absurd rfl c2⟩
  · rw [gt_yes z0 z1] at hp
    refine ⟨fun c2 => absurd c2 (by decide), fun _ => ?_⟩
    try simp (disch := omega) only [pk_mul, nI_add, n_lt0, n_le0, n_eq0, n_ge0, n_gt0, n_lt, n_le, n_eq, n_in, n_div, n_rem, n_rem2, n_m1, nI_clamp, bz_0, bz_1, tI_0, tI_bz, n4, n16, eq_self, Nat.reduceLT, Nat.reduceLeDiff, Nat.reduceEqDiff, Nat.reduceAdd, Nat.reduceMul, Nat.reduceDiv, Nat.reduceMod, Nat.le_refl, decide_eq_false_iff_not, Classical.not_not, true_and, and_true, false_and, and_false, not_true_eq_false, not_false_eq_true, forall_const, true_implies, false_implies, implies_true, ne_eq]
    exact ⟨hnl, J4 _ _ _ _ (o1.tr (o2.tr (o3.tr (OT.oi Oi.up)))) (t3.img Oi.up (t3.1.cnt1 hnl _)) (by dsimp only; rw [(lo_same (by omega)).1, hmn]) hp⟩
end OWN
