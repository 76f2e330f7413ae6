/-! ===== the reference: behind, room, of ===== -/
section RTHK2
variable {sL d L B : Nat} {h : mH} {g : Gs} {S : St} {p : Int32 → mH → Prop} {l pl v : Int32}
/-- a write performed, whatever v -/
theorem r_perfW {q : mH → Prop} {l k : Nat} (hS : RS h S) (hw : WF S) (hb : BD S B) (hB : LB B L 2000) (hL : L < 2 ^ 32) (hlk : lk S = false) (hl : l < mn S) (hk : k < 64) (hp : ∀ h', OE h h' → RR h' L (wpl L l k v (S, 0, 0)) → q h') : mU (Kd sL (d + 7)) 145 [.inr (.inr (.inr 7)), .inl (nI 0), .inl (nI l), .inl (nI k), .inl v, .inl (nI L)] h q := by
  have hC : HC B (mn S) ((S, 0, 0) : Sg) := ⟨⟨hw, hb, rfl⟩, fun _ => lk_C0 hlk⟩
  refine ke_X4_performs ?_
  refine EX.go (Kd_mono _ _) [false, false, false, false, false, false, false, false, false, false] 40 0 ?_
  dsimp only [wpc_s, wsl_t, wsl_f, gD_0, gD_s, ↓denB_n, pI_s, pG_s, pU_n, cb_X4_performs_0, cb_X4_performs_1, cb_X4_performs_2, cb_X4_performs_3, cb_X4_performs_4, cb_X4_performs_5, cb_X4_performs_6, cb_X4_performs_7, cb_X4_performs_8, cb_X4_performs_9, ↓ev_aload_n_0, ↓ev_iconst_0, ↓ev_putf_4_7, ↓ev_iload_5, ↓ev_putf_4_8, ↓ev_putf_4_9, ↓ev_putf_4_10, ↓ev_iload_n_1, ↓ev_tsw_0_7, ↓ev_iload_n_2, ↓ev_iload_n_3, ↓ev_iload_4, ↓ev_callv_4_0_0, ↓ev_callv_4_1_0, ↓ev_callv_4_2_0, ↓ev_callv_4_3_0, ↓ev_callv_4_4_0, ↓ev_goto, ↓ev_callv_3_0_0, ↓ev_callv_3_1_0, ↓ev_callv_3_2_0, ↓ev_callv_3_3_0, ↓ev_callv_3_4_0, ↓ev_callv_2_0_0, ↓ev_callv_2_1_0, ↓ev_callv_2_2_0, ↓ev_callv_2_3_0, ↓ev_callv_2_4_0, ↓ev_callv_1_0_0, ↓ev_callv_1_1_0, ↓ev_callv_1_2_0, ↓ev_callv_1_3_0, ↓ev_callv_1_4_0, ↓ev_ret, Nat.reduceAdd]
  have bz0 : bz (nI 0) := Or.inl rfl
  refine ⟨bz0, bz0, ?_⟩
  have o0 : OE h (hup (hup (hup (hup h (.inr 7) 7 (nI 0)) (.inr 7) 8 (nI L)) (.inr 7) 9 (nI 0)) (.inr 7) 10 (nI 0)) := ⟨fun r p _ _ _ _ => by funext k; rw [hup_other p, hup_other p, hup_other p, hup_other p], fun j p q s t => by rw [hup_idx t, hup_idx s, hup_idx q, hup_idx p]⟩
  have t0 : RR (hup (hup (hup (hup h (.inr 7) 7 (nI 0)) (.inr 7) 8 (nI L)) (.inr 7) 9 (nI 0)) (.inr 7) 10 (nI 0)) L ((S, 0, 0) : Sg) := by
    refine ⟨((((hS.ot (by simp)).ot (by simp)).ot (by simp)).ot (by simp)), ?_, ?_, ?_, ?_, Nat.zero_le _, hL, (show 0 ≤ 2 by decide)⟩
    · rw [hup_idx (by decide), hup_idx (by decide), hup_idx (by decide), hup_same]
    · rw [hup_idx (by decide), hup_idx (by decide), hup_same]
    · rw [hup_idx (by decide), hup_same]; rfl
    · rw [hup_same]; rfl
  generalize hup (hup (hup (hup h (.inr 7) 7 (nI 0)) (.inr 7) 8 (nI L)) (.inr 7) 9 (nI 0)) (.inr 7) 10 (nI 0) = h1 at o0 t0
  have hB0 : LB B L ((S, 0, 0) : Sg).2.1 := hB.w (Or.inl (Nat.zero_le _))
  try simp (disch := omega) only [pk_mul, nI_add, n_lt0, n_le0, n_eq0, n_ge0, n_gt0, n_lt, n_le, n_eq, n_in, n_div, n_rem, n_rem2, n_m1, nI_clamp, bz_0, bz_1, tI_0, tI_bz, n4, n16, eq_self, Nat.reduceLT, Nat.reduceLeDiff, Nat.reduceEqDiff, Nat.reduceAdd, Nat.reduceMul, Nat.reduceDiv, Nat.reduceMod, Nat.le_refl, decide_eq_false_iff_not, Classical.not_not, true_and, and_true, false_and, and_false, not_true_eq_false, not_false_eq_true, forall_const, true_implies, false_implies, implies_true, ne_eq]
  exact r_writes t0 hB0 hC hl hk (fun h2 o2 t2 => hp h2 (o2.od.oe o0) t2)
theorem r_behind (hG : RG h g) (hJ : JG B g) (hB : B < 2 ^ 29) (hp : ∀ h', FR h h' → RG h' (aBehind g l pl v).2 → p (aBehind g l pl v).1 h') : mI (Kd sL (d + 12)) 175 [.inr (.inr (.inr 7)), .inl l, .inl pl, .inl v] h p := by
  have hm6 := hJ.1.m
  refine ke_X4_behind ?_
  refine EX.go (Kd_mono _ _) [false, false, false, false, false, true, false, false] 40 0 ?_
  dsimp only [wpc_s, wsl_t, wsl_f, gD_0, gD_s, ↓denB_n, pI_s, pG_s, pU_n, cb_X4_behind_0, cb_X4_behind_1, cb_X4_behind_2, cb_X4_behind_3, cb_X4_behind_4, cb_X4_behind_5, cb_X4_behind_6, cb_X4_behind_7, ↓ev_aload_n_0, ↓ev_iload_n_1, ↓ev_iload_n_2, ↓ev_iload_n_3, ↓ev_calls_1_0_1, ↓ev_calls_1_1_1, ↓ev_calls_1_2_1, ↓ev_calls_1_3_1, ↓ev_calls_1_4_1, ↓ev_callv_4_0_1, ↓ev_callv_4_1_1, ↓ev_callv_4_2_1, ↓ev_callv_4_3_1, ↓ev_callv_4_4_1, ↓ev_istore_4, ↓ev_iload_4, ↓ev_if_eq, ↓ev_callv_2_0_1, ↓ev_callv_2_1_1, ↓ev_callv_2_2_1, ↓ev_callv_2_3_1, ↓ev_callv_2_4_1, ↓ev_iret, ↓ev_callv_3_0_1, ↓ev_callv_3_1_1, ↓ev_callv_3_2_1, ↓ev_callv_3_3_1, ↓ev_callv_3_4_1, ↓ev_callv_3_5_1, ↓ev_icmp_ne, ↓ev_iconst_m1, ↓ev_iconst_0, ↓ev_istore_5, ↓ev_iload_5, ↓ev_callv_6_0_1, ↓ev_callv_6_1_1, ↓ev_callv_6_2_1, ↓ev_callv_6_3_1, ↓ev_callv_6_4_1, ↓ev_icmp_eq, ↓ev_iinc_5_1, ↓ev_goto, Nat.reduceAdd]
  unfold aBehind at hp
  refine r_isByte ?_
  refine r_wrong (b := dec (okN v 256)) hG.1 hJ.1 hJ.2.1 hB (fun z => ?_) (fun z1 z2 z0 z3 h1 o1 s1 => ?_) (fun z1 z2 z0 z3 z4 h1 o1 s1 => ?_) (fun z1 z2 z0 z3 z4 h1 o1 s1 d1 => ?_)
  · refine ⟨fun c => absurd c (by decide), fun _ => ?_⟩
    rw [thk_bad (fun w => z ⟨w.1, w.2.1, dec_t.mpr w.2.2⟩)] at hp
    exact r_rf (j := 0) hG (by decide) hp
  · refine ⟨fun c => absurd c (by decide), fun _ => ?_⟩
    rw [thk_st ⟨z1, z2, dec_t.mp z0⟩ z3] at hp
    exact r_rf (j := 2) (hG.fe0 o1 s1) (by decide) (fun h2 o2 g2 => hp h2 (o1.fr.tr o2) g2)
  · refine ⟨fun c => absurd c (by decide), fun _ => ?_⟩
    rw [thk_fu ⟨z1, z2, dec_t.mp z0⟩ z3 (by rw [tau_v (w := 0)]; exact z4)] at hp
    exact r_rf (j := 1) (hG.fe0 o1 s1) (by decide) (fun h2 o2 g2 => hp h2 (o1.fr.tr o2) g2)
  · refine ⟨fun _ => ?_, fun c => absurd rfl c⟩
    have hf : fit g.1 0 l pl v := ⟨z1, z2, dec_t.mp z0⟩
    have hnf : ¬ (tau g.1 0 l pl v).2.2 = 2 := by rw [tau_v (w := 0)]; exact z4
    rw [thk_ok hf z3 hnf] at hp
    have hneed : (tau g.1 0 l pl v).2.1 ≤ 900 := by
      have := n_act (S := g.1) (kd := 0) (a := l) (b := pl) (c := v) (L := 1000000) (σ := ((g.1, 0, 0) : Sg))
      unfold tau
      omega
    have hrd := fun n (hn : (tau g.1 0 l pl v).2.1 ≤ n) => tau_rd hJ.1 hJ.2.1 hB hf z3 hnf hn
    obtain ⟨k1, g1, rfl⟩ := okL_n z1 hm6
    obtain ⟨k2, g2, rfl⟩ := okN_n z2 (by decide)
    rw [nI_clamp (show k2 < 2 ^ 31 by omega)] at hp hrd
    refine r_readOf s1 hJ.1 g1 g2 ?_
    dsimp only at hp
    refine ⟨fun c => ?_, fun c => ?_⟩
    · rw [if_neg c] at hp
      suffices H : ∀ (f n : Nat) (h2 : mH), n + f = (tau g.1 0 (nI k1) (nI k2) v).2.1 → FE h h2 → RS h2 g.1 → (∀ h', FR h h' → RG h' g → p (bhF g.1 (nI k1) (nI k2) v f n) h') → EX (Kd sL (d + 11)) sL md_X4_behind (pI p) 5 [some (.inr (.inr (.inr 7))), some (.inl (nI k1)), some (.inl (nI k2)), some (.inl v), some (.inl (nI 0)), some (.inl (nI n))] [] h2 from H _ 0 h1 (by omega) o1 s1 hp
      intro f
      induction f with
      | zero =>
        intro n h2 hn o2 s2 hp
        refine EX.go (Kd_mono _ _) [false, false, false, false, false, true, false, false] 40 5 ?_
        dsimp only [wpc_s, wsl_t, wsl_f, gD_0, gD_s, ↓denB_n, pI_s, pG_s, pU_n, cb_X4_behind_0, cb_X4_behind_1, cb_X4_behind_2, cb_X4_behind_3, cb_X4_behind_4, cb_X4_behind_5, cb_X4_behind_6, cb_X4_behind_7, ↓ev_aload_n_0, ↓ev_iload_n_1, ↓ev_iload_n_2, ↓ev_iload_n_3, ↓ev_calls_1_0_1, ↓ev_calls_1_1_1, ↓ev_calls_1_2_1, ↓ev_calls_1_3_1, ↓ev_calls_1_4_1, ↓ev_callv_4_0_1, ↓ev_callv_4_1_1, ↓ev_callv_4_2_1, ↓ev_callv_4_3_1, ↓ev_callv_4_4_1, ↓ev_istore_4, ↓ev_iload_4, ↓ev_if_eq, ↓ev_callv_2_0_1, ↓ev_callv_2_1_1, ↓ev_callv_2_2_1, ↓ev_callv_2_3_1, ↓ev_callv_2_4_1, ↓ev_iret, ↓ev_callv_3_0_1, ↓ev_callv_3_1_1, ↓ev_callv_3_2_1, ↓ev_callv_3_3_1, ↓ev_callv_3_4_1, ↓ev_callv_3_5_1, ↓ev_icmp_ne, ↓ev_iconst_m1, ↓ev_iconst_0, ↓ev_istore_5, ↓ev_iload_5, ↓ev_callv_6_0_1, ↓ev_callv_6_1_1, ↓ev_callv_6_2_1, ↓ev_callv_6_3_1, ↓ev_callv_6_4_1, ↓ev_icmp_eq, ↓ev_iinc_5_1, ↓ev_goto, Nat.reduceAdd]
        refine r_thought (w := nI 0) s2 hJ.1 hJ.2.1 hB (by omega) hf z3 (fun h3 o3 s3 => ?_)
        rw [if_pos (show nI 0 = 0 from rfl), nI_clamp (show k2 < 2 ^ 31 by omega), hrd n (by omega)]
        exact ⟨fun _ => hp h3 (o2.tr o3).fr (hG.fe0 (o2.tr o3) s3), fun z => absurd rfl z⟩
      | succ f ih =>
        intro n h2 hn o2 s2 hp
        refine EX.go (Kd_mono _ _) [false, false, false, false, false, true, false, false] 40 5 ?_
        dsimp only [wpc_s, wsl_t, wsl_f, gD_0, gD_s, ↓denB_n, pI_s, pG_s, pU_n, cb_X4_behind_0, cb_X4_behind_1, cb_X4_behind_2, cb_X4_behind_3, cb_X4_behind_4, cb_X4_behind_5, cb_X4_behind_6, cb_X4_behind_7, ↓ev_aload_n_0, ↓ev_iload_n_1, ↓ev_iload_n_2, ↓ev_iload_n_3, ↓ev_calls_1_0_1, ↓ev_calls_1_1_1, ↓ev_calls_1_2_1, ↓ev_calls_1_3_1, ↓ev_calls_1_4_1, ↓ev_callv_4_0_1, ↓ev_callv_4_1_1, ↓ev_callv_4_2_1, ↓ev_callv_4_3_1, ↓ev_callv_4_4_1, ↓ev_istore_4, ↓ev_iload_4, ↓ev_if_eq, ↓ev_callv_2_0_1, ↓ev_callv_2_1_1, ↓ev_callv_2_2_1, ↓ev_callv_2_3_1, ↓ev_callv_2_4_1, ↓ev_iret, ↓ev_callv_3_0_1, ↓ev_callv_3_1_1, ↓ev_callv_3_2_1, ↓ev_callv_3_3_1, ↓ev_callv_3_4_1, ↓ev_callv_3_5_1, ↓ev_icmp_ne, ↓ev_iconst_m1, ↓ev_iconst_0, ↓ev_istore_5, ↓ev_iload_5, ↓ev_callv_6_0_1, ↓ev_callv_6_1_1, ↓ev_callv_6_2_1, ↓ev_callv_6_3_1, ↓ev_callv_6_4_1, ↓ev_icmp_eq, ↓ev_iinc_5_1, ↓ev_goto, Nat.reduceAdd]
        unfold bhF at hp
        rw [nI_clamp (show k2 < 2 ^ 31 by omega)] at hp
        refine r_thought (w := nI 0) s2 hJ.1 hJ.2.1 hB (by omega) hf z3 (fun h3 o3 s3 => ?_)
        rw [if_pos (show nI 0 = 0 from rfl), nI_clamp (show k2 < 2 ^ 31 by omega)]
        try simp (disch := omega) only [pk_mul, nI_add, n_lt0, n_le0, n_eq0, n_ge0, n_gt0, n_lt, n_le, n_eq, n_in, n_div, n_rem, n_rem2, n_m1, nI_clamp, bz_0, bz_1, tI_0, tI_bz, n4, n16, eq_self, Nat.reduceLT, Nat.reduceLeDiff, Nat.reduceEqDiff, Nat.reduceAdd, Nat.reduceMul, Nat.reduceDiv, Nat.reduceMod, Nat.le_refl, decide_eq_false_iff_not, Classical.not_not, true_and, and_true, false_and, and_false, not_true_eq_false, not_false_eq_true, forall_const, true_implies, false_implies, implies_true, ne_eq]
        refine ⟨fun c2 => ?_, fun c2 => ?_⟩
        · rw [if_pos c2] at hp
          exact hp h3 (o2.tr o3).fr (hG.fe0 (o2.tr o3) s3)
        · rw [if_neg c2] at hp
          exact ih (n + 1) h3 (by omega) (o2.tr o3) s3 hp
    · rw [if_pos c] at hp
      exact hp h1 o1.fr (hG.fe0 o1 s1)
theorem C0_lk (h : C0 S) : lk S = false := by
  unfold lk
  rw [dec_f]
  rintro ⟨c, hc, z⟩
  unfold lackP at z
  rw [dec_t] at z
  have h1 := h c z.1 hc
  have h2 := Int32.lt_iff_toInt_lt.mp z.2
  have h3 := tru_le S c
  rw [nI_toInt (by omega), tru_tot] at h2
  omega
/-- the next place written, from none written on or from m -/
theorem rw_step {l k m : Nat} {S2 : St} (hk : rwF 1000000 l k (S, 0, 0) = (S2, m, 0)) (hm : m ≤ 900) : rwF 1000000 l (k + 1) (S, 0, 0) = shf m (wpl 1000000 l k (rdf S2 6 (nI l) k) (S2, 0, 0)) := by
  unfold rwF
  rw [hk]
  have hg := (gd_wpl l k (rdf S2 6 (nI l) k) 1000000 (S2, 0, 0)).2.2.2.2 m
  have hc := n_wpl (L := 1000000) (σ := ((S2, 0, 0) : Sg)) (l := l) (p := k) (v := rdf S2 6 (nI l) k)
  have hc' : (wpl 1000000 l k (rdf S2 6 (nI l) k) (S2, 0, 0)).2.1 ≤ 0 + 13 := hc
  have := hg (by dsimp only; omega)
  dsimp only at this
  rw [← this]
  show wpl 1000000 l k (rdf S2 6 (nI l) k) (S2, m, 0) = wpl 1000000 l k (rdf S2 6 (nI l) k) (S2, 0 + m, 0)
  rw [Nat.zero_add]
theorem rwF_hz {l k : Nat} {σ : Sg} (h : ¬ (rwF 1000000 l k σ).2.2 = 0) : ∀ n, rwF 1000000 l (k + n) σ = rwF 1000000 l k σ
  | 0 => rfl
  | n + 1 => by
    show wpl 1000000 l (k + n) _ (rwF 1000000 l (k + n) σ) = _
    rw [rwF_hz h n, wpl_hz h]
theorem wpl_n1 {l p : Nat} {v : Int32} {S2 : St} : ¬ (wpl 1000000 l p v (S2, 0, 0)).2.2 = 1 := fun z => by
  have hc := n_wpl (L := 1000000) (σ := ((S2, 0, 0) : Sg)) (l := l) (p := p) (v := v)
  have hc' : (wpl 1000000 l p v (S2, 0, 0)).2.1 ≤ 0 + 13 := hc
  rcases (gd_wpl l p v 1000000 (S2, 0, 0)).2.2.1 z with y | y
  · exact absurd y (show ¬ (0 : Nat) = 1 by decide)
  · dsimp only at y
    omega
theorem r_through {l : Nat} {w : Int32} (hw01 : w = nI 0 ∨ w = nI 1) (hS : RS h S) (hw : WF S) (hb : BD S B) (hB : B < 2 ^ 29) (hl : l < mn S) (hlk : lk S = false) (hp : ∀ h', FE h h' → RS h' S → p (if w = nI 0 then nI (rmF S l 64 0) else rwc S l) h') : mI (Kd sL (d + 8)) 176 [.inr (.inr (.inr 7)), .inl (nI l), .inl w] h p := by
  have hm6 := hw.m
  refine ke_X4_through ?_
  refine EX.go (Kd_mono _ _) [false, true, false, false, false, false, false, false, false, false, false, false, false] 40 0 ?_
  dsimp only [wpc_s, wsl_t, wsl_f, gD_0, gD_s, ↓denB_n, pI_s, pG_s, pU_n, cb_X4_through_0, cb_X4_through_1, cb_X4_through_2, cb_X4_through_3, cb_X4_through_4, cb_X4_through_5, cb_X4_through_6, cb_X4_through_7, cb_X4_through_8, cb_X4_through_9, cb_X4_through_10, cb_X4_through_11, cb_X4_through_12, ↓ev_aload_n_0, ↓ev_getf_4_0, ↓ev_getf_4_1, ↓ev_calls_2_0_0, ↓ev_calls_2_1_0, ↓ev_calls_2_2_0, ↓ev_calls_2_3_0, ↓ev_calls_2_4_0, ↓ev_iconst_0, ↓ev_istore_n_3, ↓ev_istore_4, ↓ev_putf_4_10, ↓ev_iload_n_3, ↓ev_bipush_64, ↓ev_icmp_ge, ↓ev_getf_4_10, ↓ev_if_ne, ↓ev_iload_n_1, ↓ev_callv_3_0_1, ↓ev_callv_3_1_1, ↓ev_callv_3_2_1, ↓ev_callv_3_3_1, ↓ev_callv_3_4_1, ↓ev_callv_3_5_1, ↓ev_iconst_m1, ↓ev_callv_6_0_0, ↓ev_callv_6_1_0, ↓ev_callv_6_2_0, ↓ev_callv_6_3_0, ↓ev_callv_6_4_0, ↓ev_iload_4, ↓ev_getf_4_7, ↓ev_iadd, ↓ev_if_eq, ↓ev_goto, ↓ev_iconst_1, ↓ev_iload_n_2, ↓ev_iret, Nat.reduceAdd]
  refine r_copies rfl rfl (by simp) (fun f1 hf1 => ?_)
  refine ⟨Or.inl rfl, ?_⟩
  have hrwc : rwc S l = if dec (∃ j, j ≤ 64 ∧ (rwF 1000000 l j (S, 0, 0)).2.2 = 2) then -1 else nI (rwF 1000000 l 64 (S, 0, 0)).2.1 := by
    unfold rwc
    rw [if_neg (by rw [hlk]; decide)]
  have J7 : ∀ (k m : Nat) (h2 : mH), k ≤ 64 → FE h h2 → (∀ j, j < 400 → h2 (.inr 9) j = S j) → rmF S l 64 0 = k → (if k < 64 then (-1 : Int32) else nI m) = rwc S l → EX (Kd sL (d + 7)) sL md_X4_through (pI p) 7 [some (.inr (.inr (.inr 7))), some (.inl (nI l)), some (.inl w), some (.inl (nI k)), some (.inl (nI m))] [] h2 := by
    intro k m h2 hk o2 e9 hrm hrw
    refine EX.go (Kd_mono _ _) [false, true, false, false, false, false, false, false, false, false, false, false, false] 40 7 ?_
    dsimp only [wpc_s, wsl_t, wsl_f, gD_0, gD_s, ↓denB_n, pI_s, pG_s, pU_n, cb_X4_through_0, cb_X4_through_1, cb_X4_through_2, cb_X4_through_3, cb_X4_through_4, cb_X4_through_5, cb_X4_through_6, cb_X4_through_7, cb_X4_through_8, cb_X4_through_9, cb_X4_through_10, cb_X4_through_11, cb_X4_through_12, ↓ev_aload_n_0, ↓ev_getf_4_0, ↓ev_getf_4_1, ↓ev_calls_2_0_0, ↓ev_calls_2_1_0, ↓ev_calls_2_2_0, ↓ev_calls_2_3_0, ↓ev_calls_2_4_0, ↓ev_iconst_0, ↓ev_istore_n_3, ↓ev_istore_4, ↓ev_putf_4_10, ↓ev_iload_n_3, ↓ev_bipush_64, ↓ev_icmp_ge, ↓ev_getf_4_10, ↓ev_if_ne, ↓ev_iload_n_1, ↓ev_callv_3_0_1, ↓ev_callv_3_1_1, ↓ev_callv_3_2_1, ↓ev_callv_3_3_1, ↓ev_callv_3_4_1, ↓ev_callv_3_5_1, ↓ev_iconst_m1, ↓ev_callv_6_0_0, ↓ev_callv_6_1_0, ↓ev_callv_6_2_0, ↓ev_callv_6_3_0, ↓ev_callv_6_4_0, ↓ev_iload_4, ↓ev_getf_4_7, ↓ev_iadd, ↓ev_if_eq, ↓ev_goto, ↓ev_iconst_1, ↓ev_iload_n_2, ↓ev_iret, Nat.reduceAdd]
    refine r_copies rfl rfl (by simp) (fun f2 hf2 => ?_)
    have fin := hp (hpt h2 (.inr 8) f2) (o2.tr (FE.pt (Or.inl rfl))) (fun j hj => by rw [hpt_self, hf2 j hj]; exact e9 j hj)
    rw [hrm, ← hrw] at fin
    rcases hw01 with rfl | rfl
    · rw [if_pos rfl] at fin
      try simp (disch := omega) only [pk_mul, nI_add, n_lt0, n_le0, n_eq0, n_ge0, n_gt0, n_lt, n_le, n_eq, n_in, n_div, n_rem, n_rem2, n_m1, nI_clamp, bz_0, bz_1, tI_0, tI_bz, n4, n16, eq_self, Nat.reduceLT, Nat.reduceLeDiff, Nat.reduceEqDiff, Nat.reduceAdd, Nat.reduceMul, Nat.reduceDiv, Nat.reduceMod, Nat.le_refl, decide_eq_false_iff_not, Classical.not_not, true_and, and_true, false_and, and_false, not_true_eq_false, not_false_eq_true, forall_const, true_implies, false_implies, implies_true, ne_eq]
      exact fin
    · rw [if_neg (show ¬ nI 1 = nI 0 by decide)] at fin
      try simp (disch := omega) only [pk_mul, nI_add, n_lt0, n_le0, n_eq0, n_ge0, n_gt0, n_lt, n_le, n_eq, n_in, n_div, n_rem, n_rem2, n_m1, nI_clamp, bz_0, bz_1, tI_0, tI_bz, n4, n16, eq_self, Nat.reduceLT, Nat.reduceLeDiff, Nat.reduceEqDiff, Nat.reduceAdd, Nat.reduceMul, Nat.reduceDiv, Nat.reduceMod, Nat.le_refl, decide_eq_false_iff_not, Classical.not_not, true_and, and_true, false_and, and_false, not_true_eq_false, not_false_eq_true, forall_const, true_implies, false_implies, implies_true, ne_eq]
      refine ⟨fun c => ?_, fun c => ?_⟩
      · rw [if_neg (by omega)] at fin
        exact fin
      · rw [if_pos (by omega)] at fin
        exact fin
  suffices H : ∀ (f k m : Nat) (h2 : mH) (S2 : St), k + f = 64 → m ≤ 13 * k → FE h h2 → (∀ j, j < 400 → h2 (.inr 9) j = S j) → h2 (.inr 7) 10 = nI 0 → RS h2 S2 → rwF 1000000 l k (S, 0, 0) = (S2, m, 0) → (∀ j, j ≤ k → ¬ (rwF 1000000 l j (S, 0, 0)).2.2 = 2) → EX (Kd sL (d + 7)) sL md_X4_through (pI p) 1 [some (.inr (.inr (.inr 7))), some (.inl (nI l)), some (.inl w), some (.inl (nI k)), some (.inl (nI m))] [] h2 by
    refine H 64 0 0 _ S rfl (Nat.le_refl _) ?_ (fun j hj => ?_) ?_ (RS.ot (fun j hj => ?_) (by simp)) rfl (fun j hj => ?_)
    · refine (FE.pt (n := 9) (f := f1) (Or.inr rfl)).tr ⟨fun r p _ _ _ _ _ => by funext k; exact hup_other p k, fun j _ _ _ p => hup_idx p⟩
    · rw [hup_other (by simp), hpt_self, hf1 j hj]; exact hS j hj
    · rw [hup_same]
    · rw [hpt_ne (by simp)]; exact hS j hj
    · rw [show j = 0 by omega]
      exact (by decide : ¬ (0 : Nat) = 2)
  intro f
  induction f with
  | zero =>
    intro k m h2 S2 hk hm o2 e9 e10 s2 hrw hno
    have hk64 : k = 64 := by omega
    subst hk64
    refine EX.go (Kd_mono _ _) [false, true, false, false, false, false, false, true, false, false, false, false, false] 40 1 ?_
    dsimp only [wpc_s, wsl_t, wsl_f, gD_0, gD_s, ↓denB_n, pI_s, pG_s, pU_n, cb_X4_through_0, cb_X4_through_1, cb_X4_through_2, cb_X4_through_3, cb_X4_through_4, cb_X4_through_5, cb_X4_through_6, cb_X4_through_7, cb_X4_through_8, cb_X4_through_9, cb_X4_through_10, cb_X4_through_11, cb_X4_through_12, ↓ev_aload_n_0, ↓ev_getf_4_0, ↓ev_getf_4_1, ↓ev_calls_2_0_0, ↓ev_calls_2_1_0, ↓ev_calls_2_2_0, ↓ev_calls_2_3_0, ↓ev_calls_2_4_0, ↓ev_iconst_0, ↓ev_istore_n_3, ↓ev_istore_4, ↓ev_putf_4_10, ↓ev_iload_n_3, ↓ev_bipush_64, ↓ev_icmp_ge, ↓ev_getf_4_10, ↓ev_if_ne, ↓ev_iload_n_1, ↓ev_callv_3_0_1, ↓ev_callv_3_1_1, ↓ev_callv_3_2_1, ↓ev_callv_3_3_1, ↓ev_callv_3_4_1, ↓ev_callv_3_5_1, ↓ev_iconst_m1, ↓ev_callv_6_0_0, ↓ev_callv_6_1_0, ↓ev_callv_6_2_0, ↓ev_callv_6_3_0, ↓ev_callv_6_4_0, ↓ev_iload_4, ↓ev_getf_4_7, ↓ev_iadd, ↓ev_if_eq, ↓ev_goto, ↓ev_iconst_1, ↓ev_iload_n_2, ↓ev_iret, Nat.reduceAdd]
    try simp (disch := omega) only [pk_mul, nI_add, n_lt0, n_le0, n_eq0, n_ge0, n_gt0, n_lt, n_le, n_eq, n_in, n_div, n_rem, n_rem2, n_m1, nI_clamp, bz_0, bz_1, tI_0, tI_bz, n4, n16, eq_self, Nat.reduceLT, Nat.reduceLeDiff, Nat.reduceEqDiff, Nat.reduceAdd, Nat.reduceMul, Nat.reduceDiv, Nat.reduceMod, Nat.le_refl, decide_eq_false_iff_not, Classical.not_not, true_and, and_true, false_and, and_false, not_true_eq_false, not_false_eq_true, forall_const, true_implies, false_implies, implies_true, ne_eq]
    refine J7 64 m h2 (by omega) o2 e9 (rmF_ok hno (by omega) (Or.inl rfl) 64 0 rfl (by omega)) ?_
    rw [if_neg (by omega), hrwc, if_neg (by rw [dec_t]; exact fun ⟨j, h1, h2⟩ => hno j h1 h2), hrw]
  | succ f ih =>
    intro k m h2 S2 hk hm o2 e9 e10 s2 hrw hno
    have hC := rwF_c (L := 1000000) (B := B) (M := mn S) (σ := ((S, 0, 0) : Sg)) (by omega) ⟨⟨hw, hb, rfl⟩, fun _ => lk_C0 hlk⟩ hl k (by omega)
    rw [hrw] at hC
    have hw2 : WF S2 := hC.1.1
    have hb2 : BD S2 (B + m) := hC.1.2.1
    have hm2 : mn S2 = mn S := hC.1.2.2
    have hl2 : lk S2 = false := C0_lk (hC.2 rfl)
    refine EX.go (Kd_mono _ _) [false, true, false, false, false, false, false, true, false, false, false, false, false] 40 1 ?_
    dsimp only [wpc_s, wsl_t, wsl_f, gD_0, gD_s, ↓denB_n, pI_s, pG_s, pU_n, cb_X4_through_0, cb_X4_through_1, cb_X4_through_2, cb_X4_through_3, cb_X4_through_4, cb_X4_through_5, cb_X4_through_6, cb_X4_through_7, cb_X4_through_8, cb_X4_through_9, cb_X4_through_10, cb_X4_through_11, cb_X4_through_12, ↓ev_aload_n_0, ↓ev_getf_4_0, ↓ev_getf_4_1, ↓ev_calls_2_0_0, ↓ev_calls_2_1_0, ↓ev_calls_2_2_0, ↓ev_calls_2_3_0, ↓ev_calls_2_4_0, ↓ev_iconst_0, ↓ev_istore_n_3, ↓ev_istore_4, ↓ev_putf_4_10, ↓ev_iload_n_3, ↓ev_bipush_64, ↓ev_icmp_ge, ↓ev_getf_4_10, ↓ev_if_ne, ↓ev_iload_n_1, ↓ev_callv_3_0_1, ↓ev_callv_3_1_1, ↓ev_callv_3_2_1, ↓ev_callv_3_3_1, ↓ev_callv_3_4_1, ↓ev_callv_3_5_1, ↓ev_iconst_m1, ↓ev_callv_6_0_0, ↓ev_callv_6_1_0, ↓ev_callv_6_2_0, ↓ev_callv_6_3_0, ↓ev_callv_6_4_0, ↓ev_iload_4, ↓ev_getf_4_7, ↓ev_iadd, ↓ev_if_eq, ↓ev_goto, ↓ev_iconst_1, ↓ev_iload_n_2, ↓ev_iret, Nat.reduceAdd]
    rw [e10]
    try simp (disch := omega) only [pk_mul, nI_add, n_lt0, n_le0, n_eq0, n_ge0, n_gt0, n_lt, n_le, n_eq, n_in, n_div, n_rem, n_rem2, n_m1, nI_clamp, bz_0, bz_1, tI_0, tI_bz, n4, n16, eq_self, Nat.reduceLT, Nat.reduceLeDiff, Nat.reduceEqDiff, Nat.reduceAdd, Nat.reduceMul, Nat.reduceDiv, Nat.reduceMod, Nat.le_refl, decide_eq_false_iff_not, Classical.not_not, true_and, and_true, false_and, and_false, not_true_eq_false, not_false_eq_true, forall_const, true_implies, false_implies, implies_true, ne_eq]
    refine ⟨fun z => absurd z (by omega), fun _ => ?_⟩
    refine r_readOf s2 hw2 (by omega) (by omega) ?_
    rw [nI_LL]
    have hstep := rw_step hrw (by omega)
    have hf2 : fit S2 0 (nI l) (nI k) (rdf S2 6 (nI l) k) ∨ True := Or.inr trivial
    have hC2 : HC (B + m) (mn S2) ((S2, 0, 0) : Sg) := ⟨⟨hw2, hb2, rfl⟩, fun _ => lk_C0 hl2⟩
    have hn1 := wpl_n1 (l := l) (p := k) (v := rdf S2 6 (nI l) k) (S2 := S2)
    have hk2 := wpl_k (L := 1000000) (l := l) (p := k) (v := rdf S2 6 (nI l) k) (σ := ((S2, 0, 0) : Sg)) (show 0 ≤ 2 by decide)
    have hc13 : (wpl 1000000 l k (rdf S2 6 (nI l) k) (S2, 0, 0)).2.1 ≤ 0 + 13 := n_wpl
    have eT : wpl LL l k (rdf S2 6 (nI l) k) (S2, 0, 0) = wpl 1000000 l k (rdf S2 6 (nI l) k) (S2, 0, 0) := (el_wpl l k _ (S2, 0, 0) (by show 0 + 13 ≤ 1000000; decide)).1
    refine r_perfW s2 hw2 hb2 (Or.inr ⟨rfl, by decide, by omega⟩) (by decide) hl2 (by omega) (by omega) (fun h3 o3 t3 => ?_)
    rw [eT] at t3
    generalize wpl 1000000 l k (rdf S2 6 (nI l) k) (S2, 0, 0) = τ at t3 hstep hn1 hk2 hc13
    obtain ⟨r1, r2, r3, r4, r5, r6⟩ := t3
    have o4 := o2.tr o3.fe
    have e9' : ∀ j, j < 400 → h3 (.inr 9) j = S j := fun j hj => by
      rw [o3.1 _ (by simp) (by simp) (by simp) (by simp) (by simp)]
      exact e9 j hj
    rw [r2, r5]
    try simp (disch := omega) only [pk_mul, nI_add, n_lt0, n_le0, n_eq0, n_ge0, n_gt0, n_lt, n_le, n_eq, n_in, n_div, n_rem, n_rem2, n_m1, nI_clamp, bz_0, bz_1, tI_0, tI_bz, n4, n16, eq_self, Nat.reduceLT, Nat.reduceLeDiff, Nat.reduceEqDiff, Nat.reduceAdd, Nat.reduceMul, Nat.reduceDiv, Nat.reduceMod, Nat.le_refl, decide_eq_false_iff_not, Classical.not_not, true_and, and_true, false_and, and_false, not_true_eq_false, not_false_eq_true, forall_const, true_implies, false_implies, implies_true, ne_eq]
    refine ⟨fun c => ?_, fun c => ?_⟩
    · have c' : ¬ τ.2.2 = 2 := c
      have hz : τ.2.2 = 0 := by omega
      have e10' : h3 (.inr 7) 10 = nI 0 := by
        rw [r5, decide_eq_false c']
        rfl
      have hr : rwF 1000000 l (k + 1) (S, 0, 0) = (τ.1, m + τ.2.1, 0) := by
        rw [hstep]
        show (τ.1, τ.2.1 + m, τ.2.2) = _
        rw [hz, Nat.add_comm]
      refine ih (k + 1) (m + τ.2.1) h3 τ.1 (by omega) (by omega) o4 e9' e10' r1 hr (fun j hj => ?_)
      by_cases y : j = k + 1
      · rw [y, hr]
        exact (by decide : ¬ (0 : Nat) = 2)
      · exact hno j (by omega)
    · -- no room
      have hfull : (rwF 1000000 l (k + 1) (S, 0, 0)).2.2 = 2 := by
        rw [hstep]
        exact c
      refine EX.go (Kd_mono _ _) [false, true, false, false, false, false, false, true, false, false, false, false, false] 40 1 ?_
      dsimp only [wpc_s, wsl_t, wsl_f, gD_0, gD_s, ↓denB_n, pI_s, pG_s, pU_n, cb_X4_through_0, cb_X4_through_1, cb_X4_through_2, cb_X4_through_3, cb_X4_through_4, cb_X4_through_5, cb_X4_through_6, cb_X4_through_7, cb_X4_through_8, cb_X4_through_9, cb_X4_through_10, cb_X4_through_11, cb_X4_through_12, ↓ev_aload_n_0, ↓ev_getf_4_0, ↓ev_getf_4_1, ↓ev_calls_2_0_0, ↓ev_calls_2_1_0, ↓ev_calls_2_2_0, ↓ev_calls_2_3_0, ↓ev_calls_2_4_0, ↓ev_iconst_0, ↓ev_istore_n_3, ↓ev_istore_4, ↓ev_putf_4_10, ↓ev_iload_n_3, ↓ev_bipush_64, ↓ev_icmp_ge, ↓ev_getf_4_10, ↓ev_if_ne, ↓ev_iload_n_1, ↓ev_callv_3_0_1, ↓ev_callv_3_1_1, ↓ev_callv_3_2_1, ↓ev_callv_3_3_1, ↓ev_callv_3_4_1, ↓ev_callv_3_5_1, ↓ev_iconst_m1, ↓ev_callv_6_0_0, ↓ev_callv_6_1_0, ↓ev_callv_6_2_0, ↓ev_callv_6_3_0, ↓ev_callv_6_4_0, ↓ev_iload_4, ↓ev_getf_4_7, ↓ev_iadd, ↓ev_if_eq, ↓ev_goto, ↓ev_iconst_1, ↓ev_iload_n_2, ↓ev_iret, Nat.reduceAdd]
      rw [r5]
      rw [decide_eq_true c]
      try simp (disch := omega) only [pk_mul, nI_add, n_lt0, n_le0, n_eq0, n_ge0, n_gt0, n_lt, n_le, n_eq, n_in, n_div, n_rem, n_rem2, n_m1, nI_clamp, bz_0, bz_1, tI_0, tI_bz, n4, n16, eq_self, Nat.reduceLT, Nat.reduceLeDiff, Nat.reduceEqDiff, Nat.reduceAdd, Nat.reduceMul, Nat.reduceDiv, Nat.reduceMod, Nat.le_refl, decide_eq_false_iff_not, Classical.not_not, true_and, and_true, false_and, and_false, not_true_eq_false, not_false_eq_true, forall_const, true_implies, false_implies, implies_true, ne_eq, Nat.add_zero]
      refine ⟨fun z => absurd z (by omega), fun _ => ?_⟩
      refine ⟨fun _ => ?_, fun z => absurd z (by decide)⟩
      refine J7 k (m + τ.2.1) h3 (by omega) o4 e9' (rmF_ok hno (by omega) (Or.inr hfull) 64 0 rfl (by omega)) ?_
      rw [if_pos (by omega), hrwc, if_pos (dec_t.mpr ⟨k + 1, by omega, hfull⟩)]
end RTHK2
