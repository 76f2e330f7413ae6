/-! ===== a drop never takes away a free cluster ===== -/
section BST
variable {L : Nat} {σ : Sg} {S S0 : St}
theorem tot_last {R R' : Nat → Nat} {D : Nat → Nat → Nat} {t c : Nat} (ht1 : 1 ≤ t) (ht : t < 64) (hR : ∀ x, 1 ≤ x → x < 64 → R' x + icn t x = R x) (h0 : R' t = 0) (hc : 1 ≤ c) (hc2 : c < 64) : tot R' D c + icn t c + cnD D t c = tot R D c := by
  unfold tot
  have e1 := hR c hc hc2
  have e2 : fb_sm (trm R' D c) 64 = fb_sm (fun k => if k = t then 0 else trm R D c k) 64 := fb_sm_cong (fun k hk => by
    by_cases z : k = t
    · subst z
      rw [if_pos rfl]
      unfold trm
      rw [if_neg (by omega)]
    · rw [if_neg z]
      unfold trm
      by_cases y : 1 ≤ k
      · have := hR k y hk
        rw [icn_n (Ne.symm z)] at this
        rw [← this, Nat.add_zero]
      · rw [if_neg (by omega), if_neg (by omega)])
  have e3 := fb_sm_upd (trm R D c) 0 ht
  have e4 : trm R D c t = cnD D t c := by
    unfold trm
    have := hR t ht1 ht
    rw [icn_s] at this
    exact if_pos ⟨ht1, by omega⟩
  omega
theorem tot_more {R R' : Nat → Nat} {D : Nat → Nat → Nat} {t c : Nat} (hR : ∀ x, 1 ≤ x → x < 64 → R' x + icn t x = R x) (h0 : ∀ x, 1 ≤ x → x < 64 → (0 < R' x ↔ 0 < R x)) (hc : 1 ≤ c) (hc2 : c < 64) : tot R' D c + icn t c = tot R D c := by
  unfold tot
  have e1 := hR c hc hc2
  have e2 : fb_sm (trm R' D c) 64 = fb_sm (trm R D c) 64 := fb_sm_cong (fun k hk => by
    unfold trm
    by_cases y : 1 ≤ k
    · by_cases z : 0 < R' k
      · rw [if_pos ⟨y, z⟩, if_pos ⟨y, (h0 k y hk).mp z⟩]
      · rw [if_neg (fun w => z w.2), if_neg (fun w => z ((h0 k y hk).mpr w.2))]
    · rw [if_neg (fun w => y w.1), if_neg (fun w => y w.1)])
  omega
/-- counts: none below 0, none above what it was -/
def NN (S0 : St) (S : St) (_ : Nat) : Prop := ∀ c, 1 ≤ c → c < 64 → 0 ≤ (S c).toInt ∧ (S c).toInt ≤ (S0 c).toInt
def PX (S0 : St) (R E : Nat → Nat) (S : St) (_ : Nat) : Prop := (∀ j, 64 ≤ j → j < 320 → S j = S0 j) ∧ ∀ c, 1 ≤ c → c < 64 → ((tot R (dt S0) c + E c : Nat) : Int) ≤ (S c).toInt
theorem px_dn {R E : Nat → Nat} {c : Nat} (hc : c < 64) (h : HQ (NN S0) (PX S0 R (fun x => E x + icn c x)) σ) : HQ (NN S0) (PX S0 R E) (addc L c (-1) σ) := by
  unfold addc
  split
  · rename_i z
    refine ⟨h.1, fun y => ⟨(h.2 y).1, fun x h1 h2 => ?_⟩⟩
    have := (h.2 y).2 x h1 h2
    dsimp only at this
    omega
  · rename_i z
    refine hq_gt h (fun S n hA hP hn => ?_)
    have h1 := hP.2 c (by omega) hc
    dsimp only at h1
    rw [icn_s] at h1
    have hA1 := hA c (by omega) hc
    have e : (S c + -1).toInt = (S c).toInt - 1 := by
      rw [Int32.toInt_add, im1]
      have hb := Int32.toInt_lt (S c)
      have hb2 := Int32.le_toInt (S c)
      apply Int.bmod_eq_of_le <;> omega
    refine ⟨fun x x1 x2 => ?_, fun j hj hj2 => by rw [pk_un (by omega)]; exact hP.1 j hj hj2, fun x x1 x2 => ?_⟩
    · by_cases y : x = c
      · subst y
        rw [pk_us, e]
        omega
      · rw [pk_un y]
        exact hA x x1 x2
    · by_cases y : x = c
      · subst y
        rw [pk_us, e]
        omega
      · rw [pk_un y]
        have := hP.2 x x1 x2
        dsimp only at this
        rw [icn_n (Ne.symm y)] at this
        exact this
theorem px_w {R R' E E' : Nat → Nat} (h : HQ (NN S0) (PX S0 R E) σ) (hw : ∀ c, 1 ≤ c → c < 64 → tot R' (dt S0) c + E' c ≤ tot R (dt S0) c + E c) : HQ (NN S0) (PX S0 R' E') σ :=
  hq_w h (fun S n _ hP => ⟨hP.1, fun c h1 h2 => by
    have := hP.2 c h1 h2
    have := hw c h1 h2
    omega⟩)
theorem rel1_px {R R' : Nat → Nat} {t : Nat} (ht : t < 64) (hR : ∀ x, 1 ≤ x → x < 64 → R' x + icn t x = R x) (h : HQ (NN S0) (PX S0 R (fun _ => 0)) σ) : HQ (NN S0) (PX S0 R' (fun _ => 0)) (rel1 L t σ) := by
  unfold rel1
  split
  · rename_i z
    refine px_w h (fun c h1 h2 => ?_)
    have : tot R' (dt S0) c = tot R (dt S0) c := by
      refine tot_cg h1 h2 (fun x x1 x2 => ?_) (fun _ _ _ _ _ _ => rfl)
      have := hR x x1 x2
      rw [icn_n (by omega)] at this
      omega
    omega
  · rename_i z
    by_cases r0 : R' t = 0
    · have h1 : HQ (NN S0) (PX S0 R' (fun c => cnD (dt S0) t c + icn t c)) σ := px_w h (fun c h1 h2 => by
        have := tot_last (D := dt S0) (by omega) ht hR r0 h1 h2
        omega)
      have h2 := px_dn (L := L) ht h1
      generalize addc L t (-1) σ = τ at h2
      have key : ∀ f k (τ : Sg), k + f = 4 → HQ (NN S0) (PX S0 R' (fun c => fb_sm (fun j => icn (dt S0 t (k + j)) c) f)) τ → HQ (NN S0) (PX S0 R' (fun _ => 0)) (rlk L t f k τ) := by
        intro f
        induction f with
        | zero =>
          intro k τ _ hq
          exact hq
        | succ f ih =>
          intro k τ hk hq
          unfold rlk
          have hdl := dt_lt τ.1 t k
          split
          · refine ih (k + 1) _ (by omega) ?_
            by_cases z0 : τ.2.2 = 0
            · have e : dt τ.1 t k = dt S0 t k := by
                rw [dt_pos z, dt_pos z, (hq.2 z0).1 _ (by omega) (by omega)]
              rw [e] at hdl ⊢
              refine px_dn hdl (px_w hq (fun c h1 h2 => ?_))
              have := fb_sm_split (fun j => icn (dt S0 t (k + j)) c) 1 f
              have e1 : fb_sm (fun j => icn (dt S0 t (k + j)) c) 1 = icn (dt S0 t k) c := by
                rw [fb_sm_succ]
                show 0 + icn (dt S0 t (k + 0)) c = _
                rw [Nat.add_zero, Nat.zero_add]
              have e2 : fb_sm (fun j => icn (dt S0 t (k + (1 + j))) c) f = fb_sm (fun j => icn (dt S0 t (k + 1 + j)) c) f := fb_sm_cong (fun j _ => by rw [Nat.add_assoc])
              rw [Nat.add_comm 1 f] at this
              omega
            · rw [addc_hz z0]
              exact ⟨hq.1, fun y => absurd y z0⟩
          · exact px_w hq (fun c h1 h2 => by omega)
      refine key 4 0 τ rfl (px_w h2 (fun c h1 h2 => ?_))
      have : fb_sm (fun j => icn (dt S0 t (0 + j)) c) 4 = cnD (dt S0) t c := fb_sm_cong (fun j _ => by rw [Nat.zero_add])
      omega
    · have h1 : HQ (NN S0) (PX S0 R' (fun c => 0 + icn t c)) σ := px_w h (fun c h1 h2 => by
        have := tot_more (D := dt S0) hR (fun x x1 x2 => by
          have := hR x x1 x2
          by_cases y : x = t
          · subst y; omega
          · rw [icn_n (Ne.symm y)] at this; omega) h1 h2
        omega)
      have h2 := px_dn (L := L) ht h1
      generalize addc L t (-1) σ = τ at h2
      by_cases z0 : τ.2.2 = 0
      · have h3 := (h2.2 z0).2 t (by omega) ht
        have h4 : R' t ≤ tot R' (dt S0) t := Nat.le_add_right _ _
        have hne : ¬ τ.1 t = 0 := fun y => by
          rw [y] at h3
          have : (0 : Int32).toInt = 0 := by decide
          omega
        have : rlk L t 4 0 τ = τ := by
          show (if τ.1 t = 0 then _ else τ) = τ
          rw [if_neg hne]
        rw [this]
        exact h2
      · rw [rlk_hz 4 0 τ z0]
        exact ⟨h2.1, fun y => absurd y z0⟩
theorem rf4_le {dd t : Nat} (hd : dd < 14) : rf4 S dd t ≤ rfc S t := fb_sm_ge (f := fun dd => rf4 S dd t) hd
theorem drp_nn {s : Nat} (hC : C0 S) (hs : s < 8) (L : Nat) : ∀ c, 1 ≤ c → c < 64 → 0 ≤ ((drp L s (S, 0, 0)).1 c).toInt ∧ ((drp L s (S, 0, 0)).1 c).toInt ≤ (S c).toInt := by
  have hst : HQ (NN S) (PX S (rfc S) (fun _ => 0)) ((S, 0, 0) : Sg) := by
    refine ⟨fun c h1 h2 => ⟨?_, Int.le_refl _⟩, fun _ => ⟨fun _ _ _ => rfl, fun c h1 h2 => hC c h1 h2⟩⟩
    have := hC c h1 h2
    show (0 : Int) ≤ (S c).toInt
    omega
  have h1 : HQ (NN S) (PX S (rfc S) (fun _ => 0)) (gt L (fun S => upd S (383 + s) (nI 0)) ((S, 0, 0) : Sg)) := hq_gt hst (fun S' n hA hP _ => ⟨fun c c1 c2 => by rw [pk_un (by omega)]; exact hA c c1 c2, fun j h1 h2 => by rw [pk_un (by omega)]; exact hP.1 j h1 h2, fun c c1 c2 => by rw [pk_un (by omega)]; exact hP.2 c c1 c2⟩)
  unfold drp
  dsimp only
  generalize gt L (fun S => upd S (383 + s) (nI 0)) ((S, 0, 0) : Sg) = τ at h1
  have key : ∀ i, i ≤ 4 → HQ (NN S) (PX S (fun t => rfc S t - fb_sm (fun j => icn (tb S (6 + s) j) t) i) (fun _ => 0)) (rlF L (fun i => tb S (6 + s) i) i τ) := by
    intro i
    induction i with
    | zero =>
      intro _
      exact h1
    | succ i ih =>
      intro hi
      unfold rlF
      refine rel1_px (tb_lt _ _ _) (fun x x1 x2 => ?_) (ih (by omega))
      have hle : rf4 S (6 + s) x ≤ rfc S x := rf4_le (by omega)
      have h3 : fb_sm (fun j => icn (tb S (6 + s) j) x) (i + 1) ≤ rf4 S (6 + s) x := by
        unfold rf4
        have := fb_sm_mono (fun j => icn (tb S (6 + s) j) x) (i + 1) (4 - (i + 1))
        rw [show i + 1 + (4 - (i + 1)) = 4 by omega] at this
        exact this
      rw [fb_sm_succ] at h3 ⊢
      omega
  exact (key 4 (Nat.le_refl 4)).1
theorem frd_eq {s : Nat} (hl : lk S = false) (hs : s < 8) : fb_ct (freeP (drp 1000000 s (S, 0, 0)).1) 64 = fb_ct (freeP S) 64 + frd S s := by
  have hnn := drp_nn (lk_C0 hl) hs 1000000
  unfold frd
  rw [← fb_ct_or (fun k _ z => by
    have := z.2
    rw [z.1] at this
    simp at this)]
  refine fb_ct_cong (fun c hc => ?_)
  rw [Bool.eq_iff_iff]
  have key : freeP S c = true → freeP (drp 1000000 s (S, 0, 0)).1 c = true := by
    unfold freeP
    rw [dec_t, dec_t]
    rintro ⟨a, b⟩
    refine ⟨a, ?_⟩
    have := hnn c a hc
    rw [b] at this
    have e0 : (0 : Int32).toInt = 0 := by decide
    apply Int32.toInt_inj.mp
    omega
  cases hA : freeP S c <;> cases hB : freeP (drp 1000000 s (S, 0, 0)).1 c <;> simp_all
end BST
section RBEST
variable {sL d L B : Nat} {h : mH} {g : Gs} {S : St} {p : Int32 → mH → Prop}
theorem bsF_lo (S : St) : ∀ s, -1 ≤ (bsF S s).2
  | 0 => (by decide : (-1 : Int32) ≤ -1)
  | s + 1 => by
    unfold bsF
    split
    · exact bsF_lo S s
    · rename_i z
      exact Int32.le_of_lt (Int32.lt_of_le_of_lt (bsF_lo S s) (Int32.not_le.mp z))
theorem r_best {w : Int32} (hG : RG h g) (hJ : JG B g) (hB : B < 2 ^ 29) (hp : ∀ h', FR h h' → RG h' (aBest g w).2 → p (aBest g w).1 h') : mI (Kd sL (d + 12)) 168 [.inr (.inr (.inr 7)), .inl w] h p := by
  refine ke_X4_best ?_
  refine EX.go (Kd_mono _ _) [false, false, false, false, false, true, false, false, false, false, false, false, false, false, false, false, false, false, false, false] 40 0 ?_
  dsimp only [wpc_s, wsl_t, wsl_f, gD_0, gD_s, ↓denB_n, pI_s, pG_s, pU_n, cb_X4_best_0, cb_X4_best_1, cb_X4_best_2, cb_X4_best_3, cb_X4_best_4, cb_X4_best_5, cb_X4_best_6, cb_X4_best_7, cb_X4_best_8, cb_X4_best_9, cb_X4_best_10, cb_X4_best_11, cb_X4_best_12, cb_X4_best_13, cb_X4_best_14, cb_X4_best_15, cb_X4_best_16, cb_X4_best_17, cb_X4_best_18, cb_X4_best_19, ↓ev_iload_n_1, ↓ev_iconst_0, ↓ev_iconst_1, ↓ev_calls_3_0_1, ↓ev_calls_3_1_1, ↓ev_calls_3_2_1, ↓ev_calls_3_3_1, ↓ev_calls_3_4_1, ↓ev_if_ne, ↓ev_aload_n_0, ↓ev_sipush_m1001, ↓ev_callv_2_0_1, ↓ev_callv_2_1_1, ↓ev_callv_2_2_1, ↓ev_callv_2_3_1, ↓ev_callv_2_4_1, ↓ev_iret, ↓ev_callv_1_0_1, ↓ev_callv_1_1_1, ↓ev_callv_1_2_1, ↓ev_callv_1_3_1, ↓ev_callv_1_4_1, ↓ev_if_eq, ↓ev_iconst_m1, ↓ev_istore_n_2, ↓ev_istore_n_3, ↓ev_istore_4, ↓ev_iload_4, ↓ev_bipush_8, ↓ev_icmp_ge, ↓ev_goto, ↓ev_istore_5, ↓ev_getf_4_0, ↓ev_getf_4_1, ↓ev_calls_2_0_0, ↓ev_calls_2_1_0, ↓ev_calls_2_2_0, ↓ev_calls_2_3_0, ↓ev_calls_2_4_0, ↓ev_iconst_2, ↓ev_callv_6_0_0, ↓ev_callv_6_1_0, ↓ev_callv_6_2_0, ↓ev_callv_6_3_0, ↓ev_callv_6_4_0, ↓ev_iload_5, ↓ev_isub, ↓ev_istore_6, ↓ev_iload_6, ↓ev_iload_n_3, ↓ev_icmp_le, ↓ev_iload_n_2, ↓ev_iinc_4_1, Nat.reduceAdd]
  unfold aBest at hp
  refine r_in ?_
  rw [dec_iff in01]
  try simp (disch := omega) only [pk_mul, nI_add, n_lt0, n_le0, n_eq0, n_ge0, n_gt0, n_lt, n_le, n_eq, n_in, n_div, n_rem, n_rem2, n_m1, nI_clamp, bz_0, bz_1, tI_0, tI_bz, n4, n16, eq_self, Nat.reduceLT, Nat.reduceLeDiff, Nat.reduceEqDiff, Nat.reduceAdd, Nat.reduceMul, Nat.reduceDiv, Nat.reduceMod, Nat.le_refl, decide_eq_false_iff_not, Classical.not_not, true_and, and_true, false_and, and_false, not_true_eq_false, not_false_eq_true, forall_const, true_implies, false_implies, implies_true, ne_eq]
  refine ⟨fun c => ?_, fun c => ?_⟩
  · have c1 : w = 0 ∨ w = nI 1 := Classical.not_not.mp (fun z => c (dec_f.mpr z))
    rw [if_pos (dec_t.mpr c1)] at hp
    refine r_hasLack hG.1 hJ.1 (fun F G => ?_)
    try simp (disch := omega) only [pk_mul, nI_add, n_lt0, n_le0, n_eq0, n_ge0, n_gt0, n_lt, n_le, n_eq, n_in, n_div, n_rem, n_rem2, n_m1, nI_clamp, bz_0, bz_1, tI_0, tI_bz, n4, n16, eq_self, Nat.reduceLT, Nat.reduceLeDiff, Nat.reduceEqDiff, Nat.reduceAdd, Nat.reduceMul, Nat.reduceDiv, Nat.reduceMod, Nat.le_refl, decide_eq_false_iff_not, Classical.not_not, true_and, and_true, false_and, and_false, not_true_eq_false, not_false_eq_true, forall_const, true_implies, false_implies, implies_true, ne_eq]
    refine ⟨fun c2 => ?_, fun c2 => ?_⟩
    · rw [if_neg (by rw [c2]; decide)] at hp
      suffices H : ∀ (f k : Nat) (h2 : mH) (x5 x6 : Option mV), k + f = 8 → FE h h2 → RS h2 g.1 → EX (Kd sL (d + 11)) sL md_X4_best (pI p) 5 [some (.inr (.inr (.inr 7))), some (.inl w), some (.inl (bsF g.1 k).1), some (.inl (bsF g.1 k).2), some (.inl (nI k)), x5, x6] [] h2 from H 8 0 _ _ _ rfl FE.p23 hG.1.a
      intro f
      induction f with
      | zero =>
        intro k h2 x5 x6 hk o2 s2
        have hk8 : k = 8 := by omega
        subst hk8
        refine EX.go (Kd_mono _ _) [false, false, false, false, false, true, false, false, false, false, false, false, false, false, false, false, false, false, false, false] 40 5 ?_
        dsimp only [wpc_s, wsl_t, wsl_f, gD_0, gD_s, ↓denB_n, pI_s, pG_s, pU_n, cb_X4_best_0, cb_X4_best_1, cb_X4_best_2, cb_X4_best_3, cb_X4_best_4, cb_X4_best_5, cb_X4_best_6, cb_X4_best_7, cb_X4_best_8, cb_X4_best_9, cb_X4_best_10, cb_X4_best_11, cb_X4_best_12, cb_X4_best_13, cb_X4_best_14, cb_X4_best_15, cb_X4_best_16, cb_X4_best_17, cb_X4_best_18, cb_X4_best_19, ↓ev_iload_n_1, ↓ev_iconst_0, ↓ev_iconst_1, ↓ev_calls_3_0_1, ↓ev_calls_3_1_1, ↓ev_calls_3_2_1, ↓ev_calls_3_3_1, ↓ev_calls_3_4_1, ↓ev_if_ne, ↓ev_aload_n_0, ↓ev_sipush_m1001, ↓ev_callv_2_0_1, ↓ev_callv_2_1_1, ↓ev_callv_2_2_1, ↓ev_callv_2_3_1, ↓ev_callv_2_4_1, ↓ev_iret, ↓ev_callv_1_0_1, ↓ev_callv_1_1_1, ↓ev_callv_1_2_1, ↓ev_callv_1_3_1, ↓ev_callv_1_4_1, ↓ev_if_eq, ↓ev_iconst_m1, ↓ev_istore_n_2, ↓ev_istore_n_3, ↓ev_istore_4, ↓ev_iload_4, ↓ev_bipush_8, ↓ev_icmp_ge, ↓ev_goto, ↓ev_istore_5, ↓ev_getf_4_0, ↓ev_getf_4_1, ↓ev_calls_2_0_0, ↓ev_calls_2_1_0, ↓ev_calls_2_2_0, ↓ev_calls_2_3_0, ↓ev_calls_2_4_0, ↓ev_iconst_2, ↓ev_callv_6_0_0, ↓ev_callv_6_1_0, ↓ev_callv_6_2_0, ↓ev_callv_6_3_0, ↓ev_callv_6_4_0, ↓ev_iload_5, ↓ev_isub, ↓ev_istore_6, ↓ev_iload_6, ↓ev_iload_n_3, ↓ev_icmp_le, ↓ev_iload_n_2, ↓ev_iinc_4_1, Nat.reduceAdd]
        try simp (disch := omega) only [pk_mul, nI_add, n_lt0, n_le0, n_eq0, n_ge0, n_gt0, n_lt, n_le, n_eq, n_in, n_div, n_rem, n_rem2, n_m1, nI_clamp, bz_0, bz_1, tI_0, tI_bz, n4, n16, eq_self, Nat.reduceLT, Nat.reduceLeDiff, Nat.reduceEqDiff, Nat.reduceAdd, Nat.reduceMul, Nat.reduceDiv, Nat.reduceMod, Nat.le_refl, decide_eq_false_iff_not, Classical.not_not, true_and, and_true, false_and, and_false, not_true_eq_false, not_false_eq_true, forall_const, true_implies, false_implies, implies_true, ne_eq]
        have fin := hp h2 o2.fr (hG.fe0 o2 s2)
        dsimp only at fin
        refine ⟨fun c3 => ?_, fun c3 => ?_⟩
        · rw [if_neg c3] at fin
          exact fin
        · rw [if_pos c3] at fin
          exact fin
      | succ f ih =>
        intro k h2 x5 x6 hk o2 s2
        refine EX.go (Kd_mono _ _) [false, false, false, false, false, true, false, false, false, false, false, false, false, false, false, true, false, false, false, false] 40 5 ?_
        dsimp only [wpc_s, wsl_t, wsl_f, gD_0, gD_s, ↓denB_n, pI_s, pG_s, pU_n, cb_X4_best_0, cb_X4_best_1, cb_X4_best_2, cb_X4_best_3, cb_X4_best_4, cb_X4_best_5, cb_X4_best_6, cb_X4_best_7, cb_X4_best_8, cb_X4_best_9, cb_X4_best_10, cb_X4_best_11, cb_X4_best_12, cb_X4_best_13, cb_X4_best_14, cb_X4_best_15, cb_X4_best_16, cb_X4_best_17, cb_X4_best_18, cb_X4_best_19, ↓ev_iload_n_1, ↓ev_iconst_0, ↓ev_iconst_1, ↓ev_calls_3_0_1, ↓ev_calls_3_1_1, ↓ev_calls_3_2_1, ↓ev_calls_3_3_1, ↓ev_calls_3_4_1, ↓ev_if_ne, ↓ev_aload_n_0, ↓ev_sipush_m1001, ↓ev_callv_2_0_1, ↓ev_callv_2_1_1, ↓ev_callv_2_2_1, ↓ev_callv_2_3_1, ↓ev_callv_2_4_1, ↓ev_iret, ↓ev_callv_1_0_1, ↓ev_callv_1_1_1, ↓ev_callv_1_2_1, ↓ev_callv_1_3_1, ↓ev_callv_1_4_1, ↓ev_if_eq, ↓ev_iconst_m1, ↓ev_istore_n_2, ↓ev_istore_n_3, ↓ev_istore_4, ↓ev_iload_4, ↓ev_bipush_8, ↓ev_icmp_ge, ↓ev_goto, ↓ev_istore_5, ↓ev_getf_4_0, ↓ev_getf_4_1, ↓ev_calls_2_0_0, ↓ev_calls_2_1_0, ↓ev_calls_2_2_0, ↓ev_calls_2_3_0, ↓ev_calls_2_4_0, ↓ev_iconst_2, ↓ev_callv_6_0_0, ↓ev_callv_6_1_0, ↓ev_callv_6_2_0, ↓ev_callv_6_3_0, ↓ev_callv_6_4_0, ↓ev_iload_5, ↓ev_isub, ↓ev_istore_6, ↓ev_iload_6, ↓ev_iload_n_3, ↓ev_icmp_le, ↓ev_iload_n_2, ↓ev_iinc_4_1, Nat.reduceAdd]
        try simp (disch := omega) only [pk_mul, nI_add, n_lt0, n_le0, n_eq0, n_ge0, n_gt0, n_lt, n_le, n_eq, n_in, n_div, n_rem, n_rem2, n_m1, nI_clamp, bz_0, bz_1, tI_0, tI_bz, n4, n16, eq_self, Nat.reduceLT, Nat.reduceLeDiff, Nat.reduceEqDiff, Nat.reduceAdd, Nat.reduceMul, Nat.reduceDiv, Nat.reduceMod, Nat.le_refl, decide_eq_false_iff_not, Classical.not_not, true_and, and_true, false_and, and_false, not_true_eq_false, not_false_eq_true, forall_const, true_implies, false_implies, implies_true, ne_eq]
        refine ⟨fun z => absurd z (by omega), fun _ => ?_⟩
        refine r_isSnap s2 hJ.1 ?_
        have J15 : ∀ (h3 : mH) (x5 x6 : Option mV), FE h h3 → RS h3 g.1 → EX (Kd sL (d + 11)) sL md_X4_best (pI p) 15 [some (.inr (.inr (.inr 7))), some (.inl w), some (.inl (bsF g.1 (k + 1)).1), some (.inl (bsF g.1 (k + 1)).2), some (.inl (nI k)), x5, x6] [] h3 := by
          intro h3 x5 x6 o3 s3
          refine EX.go (Kd_mono _ _) [false, false, false, false, false, true, false, false, false, false, false, false, false, false, false, false, false, false, false, false] 40 15 ?_
          dsimp only [wpc_s, wsl_t, wsl_f, gD_0, gD_s, ↓denB_n, pI_s, pG_s, pU_n, cb_X4_best_0, cb_X4_best_1, cb_X4_best_2, cb_X4_best_3, cb_X4_best_4, cb_X4_best_5, cb_X4_best_6, cb_X4_best_7, cb_X4_best_8, cb_X4_best_9, cb_X4_best_10, cb_X4_best_11, cb_X4_best_12, cb_X4_best_13, cb_X4_best_14, cb_X4_best_15, cb_X4_best_16, cb_X4_best_17, cb_X4_best_18, cb_X4_best_19, ↓ev_iload_n_1, ↓ev_iconst_0, ↓ev_iconst_1, ↓ev_calls_3_0_1, ↓ev_calls_3_1_1, ↓ev_calls_3_2_1, ↓ev_calls_3_3_1, ↓ev_calls_3_4_1, ↓ev_if_ne, ↓ev_aload_n_0, ↓ev_sipush_m1001, ↓ev_callv_2_0_1, ↓ev_callv_2_1_1, ↓ev_callv_2_2_1, ↓ev_callv_2_3_1, ↓ev_callv_2_4_1, ↓ev_iret, ↓ev_callv_1_0_1, ↓ev_callv_1_1_1, ↓ev_callv_1_2_1, ↓ev_callv_1_3_1, ↓ev_callv_1_4_1, ↓ev_if_eq, ↓ev_iconst_m1, ↓ev_istore_n_2, ↓ev_istore_n_3, ↓ev_istore_4, ↓ev_iload_4, ↓ev_bipush_8, ↓ev_icmp_ge, ↓ev_goto, ↓ev_istore_5, ↓ev_getf_4_0, ↓ev_getf_4_1, ↓ev_calls_2_0_0, ↓ev_calls_2_1_0, ↓ev_calls_2_2_0, ↓ev_calls_2_3_0, ↓ev_calls_2_4_0, ↓ev_iconst_2, ↓ev_callv_6_0_0, ↓ev_callv_6_1_0, ↓ev_callv_6_2_0, ↓ev_callv_6_3_0, ↓ev_callv_6_4_0, ↓ev_iload_5, ↓ev_isub, ↓ev_istore_6, ↓ev_iload_6, ↓ev_iload_n_3, ↓ev_icmp_le, ↓ev_iload_n_2, ↓ev_iinc_4_1, Nat.reduceAdd]
          try simp (disch := omega) only [pk_mul, nI_add, n_lt0, n_le0, n_eq0, n_ge0, n_gt0, n_lt, n_le, n_eq, n_in, n_div, n_rem, n_rem2, n_m1, nI_clamp, bz_0, bz_1, tI_0, tI_bz, n4, n16, eq_self, Nat.reduceLT, Nat.reduceLeDiff, Nat.reduceEqDiff, Nat.reduceAdd, Nat.reduceMul, Nat.reduceDiv, Nat.reduceMod, Nat.le_refl, decide_eq_false_iff_not, Classical.not_not, true_and, and_true, false_and, and_false, not_true_eq_false, not_false_eq_true, forall_const, true_implies, false_implies, implies_true, ne_eq]
          exact ih (k + 1) h3 _ _ (by omega) o3 s3
        rw [show bsF g.1 (k + 1) = (if bs1 g.1 k ≤ (bsF g.1 k).2 then bsF g.1 k else (nI k, bs1 g.1 k)) from rfl] at J15
        try simp (disch := omega) only [pk_mul, nI_add, n_lt0, n_le0, n_eq0, n_ge0, n_gt0, n_lt, n_le, n_eq, n_in, n_div, n_rem, n_rem2, n_m1, nI_clamp, bz_0, bz_1, tI_0, tI_bz, n4, n16, eq_self, Nat.reduceLT, Nat.reduceLeDiff, Nat.reduceEqDiff, Nat.reduceAdd, Nat.reduceMul, Nat.reduceDiv, Nat.reduceMod, Nat.le_refl, decide_eq_false_iff_not, Classical.not_not, true_and, and_true, false_and, and_false, not_true_eq_false, not_false_eq_true, forall_const, true_implies, false_implies, implies_true, ne_eq]
        refine ⟨fun c3 => ?_, fun c3 => ?_⟩
        · have c4 := Classical.not_not.mp (fun z => c3 (dec_f.mpr z))
          have c5 := c4.2
          have hf : fit g.1 2 (nI k) 0 0 := by
            refine ⟨c4.1, ?_⟩
            rw [nI_clamp (by omega)]
            first | exact c5 | (rw [nI_clamp (by omega)] at c5; exact c5)
          have c6 : ¬ sn g.1 k = -1 := by
            have := hf.2
            rw [nI_clamp (by omega)] at this
            exact this
          have e1 : bs1 g.1 k = nI (frd g.1 k) := by
            unfold bs1
            rw [if_neg c6]
          rw [e1] at J15
          refine r_free s2 ?_
          refine r_copies rfl rfl (by simp) (fun f1 hf1 => ?_)
          rw [nI_LL]
          have s3 : RS (hpt h2 (.inr 9) f1) g.1 := fun j hj => by rw [hpt_ne (by simp)]; exact s2 j hj
          refine r_performs (kd := 2) (a := nI k) (b := 0) (c := 0) s3 hJ.1 hJ.2.1 (Or.inr ⟨rfl, by decide, by omega⟩) (by decide) (by decide) hf c2 (hin_n (by decide) (by decide)) (fun h4 o4 t4 => ?_)
          have eT : act g.1 2 (nI k) 0 0 LL (g.1, 0, 0) = drp 1000000 k (g.1, 0, 0) := by
            refine (el_act g.1 2 (nI k) 0 0 (g.1, 0, 0) (by show 0 + 900 ≤ 1000000; decide)).1.trans ?_
            show drp 1000000 (nI k).toNatClampNeg (g.1, 0, 0) = _
            rw [nI_clamp (by omega)]
          rw [eT] at t4
          refine r_free t4.1 ?_
          refine r_copies rfl rfl (by simp) (fun f2 hf2 => ?_)
          have emore : fre (drp 1000000 k (g.1, 0, 0)).1 - fre g.1 = nI (frd g.1 k) := by
            unfold fre
            have := frd_eq c2 (show k < 8 by omega)
            rw [n_sub (by omega)]
            congr 1
            omega
          rw [emore]
          have o5 : FE h (hpt h4 (.inr 8) f2) := o2.tr ((FE.pt (Or.inr rfl)).tr (o4.fe.tr (FE.pt (Or.inl rfl))))
          have s5 : RS (hpt h4 (.inr 8) f2) g.1 := fun j hj => by
            rw [hpt_self, hf2 j hj, o4.1 _ (by simp) (by simp) (by simp) (by simp) (by simp), hpt_self, hf1 j hj]
            exact s2 j hj
          refine ⟨fun c7 => ⟨fun _ => ?_, fun z => absurd c7 z⟩, fun c7 => ⟨fun z => absurd z c7, fun _ => ?_⟩⟩
          · rw [if_pos c7] at J15
            exact J15 _ _ _ o5 s5
          · rw [if_neg c7] at J15
            exact J15 _ _ _ o5 s5
        · rw [dec_f] at c3
          have c6 : sn g.1 k = -1 := by
            apply Classical.byContradiction
            intro z
            refine c3 ⟨⟨by rw [n_lt0 (by omega)]; exact id, by rw [n_lt (by omega) (by omega)]; omega⟩, ?_⟩
            first | exact z | (rw [nI_clamp (by omega)]; exact z)
          rw [show bs1 g.1 k = -1 by unfold bs1; rw [if_pos c6], if_pos (bsF_lo g.1 k)] at J15
          exact J15 h2 _ _ o2 s2
    · rw [if_pos (by simpa using c2)] at hp
      exact hp _ FE.p23.fr hG.p23
  · rw [if_neg (by rw [show dec (w = 0 ∨ w = nI 1) = false from c]; decide)] at hp
    exact r_rf (j := 0) hG (by decide) hp
end RBEST
