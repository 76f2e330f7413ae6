/-! ===== the reference: to write a place ===== -/
section RWPL
variable {sL d L B M : Nat} {h : mH} {σ : Sg} {q : mH → Prop}
theorem anw_hi {j : Nat} (hj : 64 ≤ j) : (gt L (fun S => upd S (ncl σ).1 (nI 1)) (ncl σ).2).1 j = σ.1 j := by
  have := ncl_lt σ
  rw [gt_fr (fun S => pk_un (by omega)), ncl_S]
theorem nam_cg {S S' : St} (h : ∀ j, 64 ≤ j → S' j = S j) : (∀ t, nam S' t ↔ nam S t) ∧ ∀ t k, dt S' t k = dt S t k := by
  have h3 := (hi_same h).2.2.1
  refine ⟨fun t => ⟨fun ⟨a, x, k, b, c, e, f⟩ => ⟨a, x, k, b, c, e, by rw [← h3]; exact f⟩, fun ⟨a, x, k, b, c, e, f⟩ => ⟨a, x, k, b, c, e, by rw [h3]; exact f⟩⟩, (hi_same h).2.2.2.1⟩
theorem new_fr (z : σ.2.2 = 0) (hc : C0 σ.1) (y : (gt L (fun S => upd S (ncl σ).1 (nI 1)) (ncl σ).2).2.2 = 0) : ¬ nam (gt L (fun S => upd S (ncl σ).1 (nI 1)) (ncl σ).2).1 (ncl σ).1 ∧ ∀ t k, nam (gt L (fun S => upd S (ncl σ).1 (nI 1)) (ncl σ).2).1 t → k < 4 → dt (gt L (fun S => upd S (ncl σ).1 (nI 1)) (ncl σ).2).1 t k ≠ (ncl σ).1 := by
  obtain ⟨e1, e2⟩ := nam_cg (S := σ.1) (S' := (gt L (fun S => upd S (ncl σ).1 (nI 1)) (ncl σ).2).1) (fun j hj => anw_hi hj)
  have hx : ¬ nam σ.1 (ncl σ).1 ∧ ∀ t k, nam σ.1 t → k < 4 → dt σ.1 t k ≠ (ncl σ).1 := by
    by_cases q1 : nw σ.1 = 64
    · have e : ncl σ = (0, (σ.1, σ.2.1, 2)) := by unfold ncl; rw [if_pos z, if_pos q1]
      rw [e] at y
      dsimp only at y
      rw [gt_hz (show ¬ (2 : Nat) = 0 by decide)] at y
      exact absurd y (show ¬ (2 : Nat) = 0 by decide)
    · have e : ncl σ = (nw σ.1, σ) := by unfold ncl; rw [if_pos z, if_neg q1]
      rw [e]
      have hn1 := nw_le σ.1
      have hn0 := nw_0 (S := σ.1) (by omega)
      exact cn_fr hc hn1.1 (by omega) (by rw [hn0]; decide)
  refine ⟨fun a => hx.1 ((e1 _).mp a), fun t k a b => ?_⟩
  rw [e2]
  exact hx.2 t k ((e1 _).mp a) b
theorem r_writes {l pl : Nat} {v : Int32} (hR : RR h L σ) (hB : LB B L σ.2.1) (hC : HC B M σ) (hl : l < M) (hpl : pl < 64) (hp : ∀ h', OC h h' → RR h' L (wpl L l pl v σ) → q h') : mU (Kd sL (d + 5)) 130 [.inr (.inr (.inr 7)), .inl (nI l), .inl (nI pl), .inl v] h q := by
  have hw := hC.1.1
  have hM := hC.1.2.2
  have hm6 := hw.m
  have hO := own_hr hB hC hl (show pl / 4 / 4 < 4 by omega)
  refine ke_X4_writes ?_
  refine EX.go (Kd_mono _ _) [false, false, false, false, true] 40 0 ?_
  dsimp only [wpc_s, wsl_t, wsl_f, gD_0, gD_s, ↓denB_n, pI_s, pG_s, pU_n, cb_X4_writes_0, cb_X4_writes_1, cb_X4_writes_2, cb_X4_writes_3, cb_X4_writes_4, ↓ev_iload_n_2, ↓ev_iconst_4, ↓ev_idiv, ↓ev_istore_4, ↓ev_aload_n_0, ↓ev_iload_n_1, ↓ev_iload_4, ↓ev_callv_3_0_0, ↓ev_callv_3_1_0, ↓ev_callv_3_2_0, ↓ev_callv_3_3_0, ↓ev_callv_3_4_0, ↓ev_bipush_64, ↓ev_getf_4_0, ↓ev_calls_2_0_1, ↓ev_calls_2_1_1, ↓ev_calls_2_2_1, ↓ev_calls_2_3_1, ↓ev_calls_2_4_1, ↓ev_iald_o8, ↓ev_iald_o9, ↓ev_iald_o10, ↓ev_iald_o11, ↓ev_iald_o12, ↓ev_iald_o13, ↓ev_iald_o14, ↓ev_iald_o15, ↓ev_iald_o16, ↓ev_imul, ↓ev_iadd, ↓ev_irem, ↓ev_istore_5, ↓ev_iload_5, ↓ev_istore_6, ↓ev_iload_6, ↓ev_istore_7, ↓ev_if_ne, ↓ev_callv_1_0_1, ↓ev_callv_1_1_1, ↓ev_callv_1_2_1, ↓ev_callv_1_3_1, ↓ev_callv_1_4_1, ↓ev_iload_7, ↓ev_callv_3_0_1, ↓ev_callv_3_1_1, ↓ev_callv_3_2_1, ↓ev_callv_3_3_1, ↓ev_callv_3_4_1, ↓ev_callv_3_5_1, ↓ev_iconst_1, ↓ev_iconst_2, ↓ev_iconst_3, ↓ev_callv_6_0_0, ↓ev_callv_6_1_0, ↓ev_callv_6_2_0, ↓ev_callv_6_3_0, ↓ev_callv_6_4_0, ↓ev_goto, ↓ev_iconst_0, ↓ev_icmp_le, ↓ev_iconst_m1, ↓ev_iload_n_3, ↓ev_ret, Nat.reduceAdd]
  try simp (disch := omega) only [pk_mul, nI_add, n_lt0, n_le0, n_eq0, n_ge0, n_gt0, n_lt, n_le, n_eq, n_in, n_div, n_rem, n_rem2, n_m1, nI_clamp, bz_0, bz_1, tI_0, tI_bz, n4, n16, eq_self, Nat.reduceLT, Nat.reduceLeDiff, Nat.reduceEqDiff, Nat.reduceAdd, Nat.reduceMul, Nat.reduceDiv, Nat.reduceMod, Nat.le_refl, decide_eq_false_iff_not, Classical.not_not, true_and, and_true, false_and, and_false, not_true_eq_false, not_false_eq_true, forall_const, true_implies, false_implies, implies_true, ne_eq]
  refine r_owns hR hw (by omega) (by omega) (fun h1 o1 t1 => ?_)
  unfold wpl at hp
  generalize own L l (pl / 4 / 4) σ = ow at hO hp t1
  obtain ⟨t, τ⟩ := ow
  dsimp only at hO hp t1
  have hw1 := hO.1.1
  have hM1 := hO.1.2.2
  have hm6 := hw1.m
  refine r_dir ?_
  have htl := tb_lt τ.1 l (pl / 4 / 4)
  have htn := tbn (S := τ.1) (d := l) (k := pl / 4 / 4) (by omega) (by omega)
  have e : h1 (.inr 8) (327 + 4 * l + pl / 4 / 4) = nI (tb τ.1 l (pl / 4 / 4)) := by rw [t1.1 _ (by omega), hw1.dr (by omega) (by omega) (prs_lay (by omega) (by omega))]
  have e2 : h1 (.inr 8) (64 + 4 * tb τ.1 l (pl / 4 / 4) + pl / 4 % 4) = nI (dt τ.1 (tb τ.1 l (pl / 4 / 4)) (pl / 4 % 4)) := by rw [t1.1 _ (by omega), hw1.cd htn (by omega)]
  have hdl := dt_lt τ.1 (tb τ.1 l (pl / 4 / 4)) (pl / 4 % 4)
  have e3 : h1 (.inr 8) (dt τ.1 (tb τ.1 l (pl / 4 / 4)) (pl / 4 % 4)) = τ.1 (dt τ.1 (tb τ.1 l (pl / 4 / 4)) (pl / 4 % 4)) := t1.1 _ (by omega)
  generalize htt : tb τ.1 l (pl / 4 / 4) = tt at e e2 e3 hdl htl htn ⊢
  generalize hoo : dt τ.1 tt (pl / 4 % 4) = oo at e2 e3 hdl ⊢
  try simp (disch := omega) only [pk_mul, nI_add, n_lt0, n_le0, n_eq0, n_ge0, n_gt0, n_lt, n_le, n_eq, n_in, n_div, n_rem, n_rem2, n_m1, nI_clamp, bz_0, bz_1, tI_0, tI_bz, n4, n16, eq_self, Nat.reduceLT, Nat.reduceLeDiff, Nat.reduceEqDiff, Nat.reduceAdd, Nat.reduceMul, Nat.reduceDiv, Nat.reduceMod, Nat.le_refl, decide_eq_false_iff_not, Classical.not_not, true_and, and_true, false_and, and_false, not_true_eq_false, not_false_eq_true, forall_const, true_implies, false_implies, implies_true, ne_eq, e, e2, Nat.zero_add, e3]
  have J4 : ∀ (h2 : mH) (τ2 : Sg) (m : Nat) (x5 x6 : Int32), m < 64 → OC h h2 → RR h2 L τ2 → (∀ h', OC h h' → RR h' L (gt L (fun S => upd S (64 + (4 * m + pl % 4)) v) τ2) → q h') → EX (Kd sL (d + 4)) sL md_X4_writes (pU q) 4 [some (.inr (.inr (.inr 7))), some (.inl (nI l)), some (.inl (nI pl)), some (.inl v), some (.inl (nI (pl / 4))), some (.inl x5), some (.inl x6), some (.inl (nI m))] [] h2 := by
    intro h2 τ2 m x5 x6 hm o2 t2 hp
    refine EX.go (Kd_mono _ _) [false, false, false, false, false] 40 4 ?_
    dsimp only [wpc_s, wsl_t, wsl_f, gD_0, gD_s, ↓denB_n, pI_s, pG_s, pU_n, cb_X4_writes_0, cb_X4_writes_1, cb_X4_writes_2, cb_X4_writes_3, cb_X4_writes_4, ↓ev_iload_n_2, ↓ev_iconst_4, ↓ev_idiv, ↓ev_istore_4, ↓ev_aload_n_0, ↓ev_iload_n_1, ↓ev_iload_4, ↓ev_callv_3_0_0, ↓ev_callv_3_1_0, ↓ev_callv_3_2_0, ↓ev_callv_3_3_0, ↓ev_callv_3_4_0, ↓ev_bipush_64, ↓ev_getf_4_0, ↓ev_calls_2_0_1, ↓ev_calls_2_1_1, ↓ev_calls_2_2_1, ↓ev_calls_2_3_1, ↓ev_calls_2_4_1, ↓ev_iald_o8, ↓ev_iald_o9, ↓ev_iald_o10, ↓ev_iald_o11, ↓ev_iald_o12, ↓ev_iald_o13, ↓ev_iald_o14, ↓ev_iald_o15, ↓ev_iald_o16, ↓ev_imul, ↓ev_iadd, ↓ev_irem, ↓ev_istore_5, ↓ev_iload_5, ↓ev_istore_6, ↓ev_iload_6, ↓ev_istore_7, ↓ev_if_ne, ↓ev_callv_1_0_1, ↓ev_callv_1_1_1, ↓ev_callv_1_2_1, ↓ev_callv_1_3_1, ↓ev_callv_1_4_1, ↓ev_iload_7, ↓ev_callv_3_0_1, ↓ev_callv_3_1_1, ↓ev_callv_3_2_1, ↓ev_callv_3_3_1, ↓ev_callv_3_4_1, ↓ev_callv_3_5_1, ↓ev_iconst_1, ↓ev_iconst_2, ↓ev_iconst_3, ↓ev_callv_6_0_0, ↓ev_callv_6_1_0, ↓ev_callv_6_2_0, ↓ev_callv_6_3_0, ↓ev_callv_6_4_0, ↓ev_goto, ↓ev_iconst_0, ↓ev_icmp_le, ↓ev_iconst_m1, ↓ev_iload_n_3, ↓ev_ret, Nat.reduceAdd]
    try simp (disch := omega) only [pk_mul, nI_add, n_lt0, n_le0, n_eq0, n_ge0, n_gt0, n_lt, n_le, n_eq, n_in, n_div, n_rem, n_rem2, n_m1, nI_clamp, bz_0, bz_1, tI_0, tI_bz, n4, n16, eq_self, Nat.reduceLT, Nat.reduceLeDiff, Nat.reduceEqDiff, Nat.reduceAdd, Nat.reduceMul, Nat.reduceDiv, Nat.reduceMod, Nat.le_refl, decide_eq_false_iff_not, Classical.not_not, true_and, and_true, false_and, and_false, not_true_eq_false, not_false_eq_true, forall_const, true_implies, false_implies, implies_true, ne_eq]
    refine r_sets t2 (by omega) (fun h3 o3 t3 => hp h3 (o2.tr o3) ?_)
    rw [Nat.add_assoc] at t3
    exact t3
  have hx1 : τ.2.2 = 0 → tt = t ∧ C0 τ.1 := fun z => by
    have := hO.2 z
    exact ⟨by rw [← htt]; exact this.2.1, this.1⟩
  refine ⟨by omega, by omega, fun c => ⟨by omega, fun c2 => ?_, fun c2 => ?_⟩, fun c => ?_⟩
  · -- not shared
    refine J4 h1 τ oo _ _ hdl o1 t1 ?_
    have key : wp1 L l pl v t τ = gt L (fun S => upd S (64 + (4 * oo + pl % 4)) v) τ := by
      by_cases z : τ.2.2 = 0
      · obtain ⟨rfl, -⟩ := hx1 z
        unfold wp1
        rw [hoo, if_neg (fun y => y.elim c (fun y => y c2))]
      · rw [wp1_hz z, gt_hz z]
    rw [key] at hp
    exact hp
  · -- shared data
    refine r_anew t1 (fun r h2 hr hrn o2 t2 => ?_)
    have key : wp1 L l pl v t τ = gt L (fun S => upd S (64 + (4 * r + pl % 4)) v) (addc L oo (-1) (gt L (fun S => upd S (64 + 4 * tt + pl / 4 % 4) (nI r)) (gt L (fun S => cp4 S oo r) (gt L (fun S => upd S (ncl τ).1 (nI 1)) (ncl τ).2)))) := by
      by_cases z : τ.2.2 = 0
      · obtain ⟨rfl, hc0⟩ := hx1 z
        have hrr := hrn z
        unfold wp1
        rw [hoo, if_pos (Or.inr c2), hrr]
        unfold wp2
        have hn := ncl_lt τ
        rw [gt_cg (f := fun S => filF S l (pl / 4) (ncl τ).1 4) (f' := fun S => cp4 S oo (ncl τ).1) (fun y => ?_), Nat.add_assoc]
        obtain ⟨f1, f2⟩ := new_fr z hc0 y
        obtain ⟨e4, e5⟩ := nam_cg (S := τ.1) (S' := (gt L (fun S => upd S (ncl τ).1 (nI 1)) (ncl τ).2).1) (fun j hj => anw_hi hj)
        have e6 := (hi_same (S := τ.1) (S' := (gt L (fun S => upd S (ncl τ).1 (nI 1)) (ncl τ).2).1) (fun j hj => anw_hi hj)).2.2.1
        generalize gt L (fun S => upd S (ncl τ).1 (nI 1)) (ncl τ).2 = τ0 at f1 f2 e5 e6 ⊢
        have edof : dof τ0.1 l (pl / 4) = oo := by
          unfold dof
          rw [e6, e5, htt, hoo]
        funext j
        by_cases hj : 64 + 4 * (ncl τ).1 ≤ j ∧ j < 64 + 4 * (ncl τ).1 + 4
        · obtain ⟨k, hk, rfl⟩ : ∃ k, k < 4 ∧ j = 64 + 4 * (ncl τ).1 + k := ⟨j - (64 + 4 * (ncl τ).1), by omega, by omega⟩
          rw [cp4_in hk, Nat.add_assoc, filF_in f1 f2 hn (by omega) 4 k (by omega) hk, rdf_s (f := 5) (by omega), show (4 * (pl / 4) + k) / 4 = pl / 4 by omega, edof, if_neg c, show (4 * (pl / 4) + k) % 4 = k by omega, ← Nat.add_assoc]
        · rw [cp4_out hj, filF_out hj 4 (by omega)]
      · rw [wp1_hz z, ncl_hz z]
        dsimp only
        rw [gt_hz z, gt_hz z, gt_hz z, addc_hz z, gt_hz z]
    rw [key] at hp
    refine r_copiesCells t2 hdl hr (fun h3 o3 t3 => ?_)
    refine r_sets t3 (by omega) (fun h4 o4 t4 => ?_)
    refine r_addc t4 c hdl (fun h5 o5 t5 => ?_)
    exact J4 h5 _ r _ _ hr (o1.tr (o2.tr (o3.tr (o4.tr o5)))) t5 hp
  · -- none
    refine r_anew t1 (fun r h2 hr hrn o2 t2 => ?_)
    have hwt : WF (gt L (fun S => upd S (ncl τ).1 (nI 1)) (ncl τ).2).1 := wf_cnt hw1 (fun j hj => anw_hi hj)
    have hmt : l < mn (gt L (fun S => upd S (ncl τ).1 (nI 1)) (ncl τ).2).1 := by
      rw [(hi_same (S := τ.1) (fun j hj => anw_hi hj)).1]
      omega
    have key : wp1 L l pl v t τ = gt L (fun S => upd S (64 + (4 * r + pl % 4)) v) (gt L (fun S => upd S (64 + 4 * tt + pl / 4 % 4) (nI r)) (gt L (fun S => four S r (rdf (gt L (fun S => upd S (ncl τ).1 (nI 1)) (ncl τ).2).1 6 (nI l) (4 * (pl / 4))) (rdf (gt L (fun S => upd S (ncl τ).1 (nI 1)) (ncl τ).2).1 6 (nI l) (4 * (pl / 4) + 1)) (rdf (gt L (fun S => upd S (ncl τ).1 (nI 1)) (ncl τ).2).1 6 (nI l) (4 * (pl / 4) + 2)) (rdf (gt L (fun S => upd S (ncl τ).1 (nI 1)) (ncl τ).2).1 6 (nI l) (4 * (pl / 4) + 3))) (gt L (fun S => upd S (ncl τ).1 (nI 1)) (ncl τ).2))) := by
      by_cases z : τ.2.2 = 0
      · obtain ⟨rfl, hc0⟩ := hx1 z
        have hrr := hrn z
        unfold wp1
        rw [hoo, if_pos (Or.inl c), hrr]
        unfold wp2
        have hn := ncl_lt τ
        have e9 : ∀ τ2 : Sg, addc L oo (-1) τ2 = τ2 := fun τ2 => by rw [c]; rfl
        rw [e9]
        refine Eq.trans (congrArg (fun x => gt L (fun S => upd S (64 + (4 * (ncl τ).1 + pl % 4)) v) (gt L (fun S => upd S (64 + (4 * tt + pl / 4 % 4)) (nI (ncl τ).1)) x)) (gt_cg (f := fun S => filF S l (pl / 4) (ncl τ).1 4) (fun y => ?_))) (by rw [Nat.add_assoc])
        obtain ⟨f1, f2⟩ := new_fr z hc0 y
        refine (four_eq (fun j hj => filF_out hj 4 (by omega)) ?_ ?_ ?_ ?_).symm
        · rw [show 64 + 4 * (ncl τ).1 = 64 + (4 * (ncl τ).1 + 0) by omega, filF_in f1 f2 hn (by omega) 4 0 (by omega) (by omega), Nat.add_zero]
        · rw [Nat.add_assoc, filF_in f1 f2 hn (by omega) 4 1 (by omega) (by omega)]
        · rw [Nat.add_assoc, filF_in f1 f2 hn (by omega) 4 2 (by omega) (by omega)]
        · rw [Nat.add_assoc, filF_in f1 f2 hn (by omega) 4 3 (by omega) (by omega)]
      · rw [wp1_hz z, ncl_hz z]
        dsimp only
        rw [gt_hz z, gt_hz z, gt_hz z, gt_hz z]
    rw [key] at hp
    refine r_readOf t2.1 hwt hmt (by omega) ?_
    refine r_readOf t2.1 hwt hmt (by omega) ?_
    refine r_readOf t2.1 hwt hmt (by omega) ?_
    refine r_readOf t2.1 hwt hmt (by omega) ?_
    refine r_setsFour t2 hr (fun h3 o3 t3 => ?_)
    refine r_sets t3 (by omega) (fun h4 o4 t4 => ?_)
    exact J4 h4 _ r _ _ hr (o1.tr (o2.tr (o3.tr o4))) t4 hp
end RWPL
