/-! ===== class TornLayers: deeds in deed, and the plain calls ===== -/
/-- what a deed comes to: its limit is the tear, if one is set -/
noncomputable def tau2 (S : St) (kd : Nat) (a b c : Int32) : Sg := if S 399 = -1 then tau S kd a b c else act S kd a b c (S 399).toNatClampNeg (S, 0, 0)
noncomputable def dne (g : Gs) (τ : Sg) : Int32 × Gs := (if τ.2.2 = 1 then -1005 else nI τ.2.1, (upd τ.1 399 (-1), g.2.1, g.2.2.1, g.2.2.2.1, g.2.2.2.2.1 + nI τ.2.1, g.2.2.2.2.2))
noncomputable def aDeed (g : Gs) (kd : Nat) (a b c : Int32) : Int32 × Gs :=
  if dec (fit g.1 kd a b c) then (if lk g.1 || dec (hin g.1 kd a) then rfA g 2 else if rnd g.1 kd a b then rfA g 3 else if (tau g.1 kd a b c).2.2 = 2 then rfA g 1 else dne g (tau2 g.1 kd a b c)) else rfA g 0
def wT (S : St) : Prop := S 399 = -1 ∨ ∃ t, t ≤ 999 ∧ S 399 = nI t
theorem CR.tear {h : mH} {i : Fin 3} {S : St} (hC : CR h i S) (v : Int32) : CR (hup h (.inl (i, 0)) 6 v) i (upd S 399 v) := by
  have e1 : mn (upd S 399 v) = mn S := by unfold mn; rw [pk_un (by omega)]
  obtain ⟨h1, h2, h3, h4, h5, h6, h7, h8⟩ := hC
  refine ⟨fun j hj => ?_, fun j hj => ?_, fun x k hx hk => ?_, fun l hl => ?_, fun s hs => ?_, ?_, ?_, ?_⟩
  · rw [hup_other (by simp), h1 j hj, pk_un (by omega)]
  · rw [hup_other (by simp), h2 j hj, pk_un (by omega)]
  · rw [hup_other (by simp), h3 x k hx hk]
    unfold tb prs
    rw [e1, pk_un (by omega), pk_un (by omega)]
  · rw [hup_other (by simp), h4 l hl]; unfold bk; rw [e1, pk_un (by omega)]
  · rw [hup_other (by simp), h5 s hs]; unfold sn; rw [pk_un (by omega), pk_un (by omega)]
  · rw [hup_idx (by decide), h6, e1]
  · rw [e1]; exact h7
  · rw [hup_same, pk_us]
section PUB
variable {sL d : Nat} {h : mH} {g : Gs} {p : Int32 → mH → Prop}
theorem k_settle_neg {x : Int32} (hx : x < 0) (hp : p x h) : mI (Kd sL (d + 7)) 90 [.inr (.inr (.inr 0)), .inl x] h p := by
  refine ke_X3_settle ?_
  refine EX.go (Kd_mono _ _) [false, false, true, false, false, false, false, false] 40 0 ?_
  dsimp only [wpc_s, wsl_t, wsl_f, gD_0, gD_s, ↓denB_n, pI_s, pG_s, pU_n, cb_X3_settle_0, cb_X3_settle_1, cb_X3_settle_2, cb_X3_settle_3, cb_X3_settle_4, cb_X3_settle_5, cb_X3_settle_6, cb_X3_settle_7, ↓ev_iload_n_1, ↓ev_if_ge, ↓ev_iret, ↓ev_aload_n_0, ↓ev_getf_3_0, ↓ev_getf_0_6, ↓ev_iconst_m1, ↓ev_icmp_eq, ↓ev_getf_3_2, ↓ev_callv_3_0_0, ↓ev_callv_3_1_0, ↓ev_callv_3_2_0, ↓ev_callv_3_3_0, ↓ev_callv_3_4_0, ↓ev_getf_2_0, ↓ev_callv_2_0_0, ↓ev_callv_2_1_0, ↓ev_callv_2_2_0, ↓ev_callv_2_3_0, ↓ev_callv_2_4_0, ↓ev_putf_0_6, ↓ev_dup, ↓ev_dupr, ↓ev_getf_3_6, ↓ev_getf_2_6, ↓ev_iadd, ↓ev_putf_3_6, ↓ev_getf_2_7, ↓ev_sipush_m1005, ↓ev_icmp_ne, ↓ev_goto, Nat.reduceAdd]
  exact ⟨fun c => absurd hx (Int32.not_lt.mpr c), fun _ => hp⟩
theorem rc_neg : ∀ j, rc j < 0 := by
  intro j
  unfold rc
  split
  · decide
  · split
    · decide
    · split <;> decide
theorem k_settle {kd n : Nat} {a b c : Int32} (hG : CG h g) (hwt : wT g.1) (hT : TR h 1000000 (tau g.1 kd a b c)) (hn2 : n = (tau g.1 kd a b c).2.1) (hD : DS sL d h (act g.1 kd a b c) g.1) (hp : ∀ h', FX h h' → CG h' (dne g (tau2 g.1 kd a b c)).2 → p (dne g (tau2 g.1 kd a b c)).1 h') : mI (Kd sL (d + 7)) 90 [.inr (.inr (.inr 0)), .inl (nI n)] h p := by
  refine ke_X3_settle ?_
  refine EX.go (Kd_mono _ _) [false, false, false, false, true, false, false, false] 40 0 ?_
  dsimp only [wpc_s, wsl_t, wsl_f, gD_0, gD_s, ↓denB_n, pI_s, pG_s, pU_n, cb_X3_settle_0, cb_X3_settle_1, cb_X3_settle_2, cb_X3_settle_3, cb_X3_settle_4, cb_X3_settle_5, cb_X3_settle_6, cb_X3_settle_7, ↓ev_iload_n_1, ↓ev_if_ge, ↓ev_iret, ↓ev_aload_n_0, ↓ev_getf_3_0, ↓ev_getf_0_6, ↓ev_iconst_m1, ↓ev_icmp_eq, ↓ev_getf_3_2, ↓ev_callv_3_0_0, ↓ev_callv_3_1_0, ↓ev_callv_3_2_0, ↓ev_callv_3_3_0, ↓ev_callv_3_4_0, ↓ev_getf_2_0, ↓ev_callv_2_0_0, ↓ev_callv_2_1_0, ↓ev_callv_2_2_0, ↓ev_callv_2_3_0, ↓ev_callv_2_4_0, ↓ev_putf_0_6, ↓ev_dup, ↓ev_dupr, ↓ev_getf_3_6, ↓ev_getf_2_6, ↓ev_iadd, ↓ev_putf_3_6, ↓ev_getf_2_7, ↓ev_sipush_m1005, ↓ev_icmp_ne, ↓ev_goto, Nat.reduceAdd]
  have hb := hT.2.2.2.2
  have e6 : h (.inl (0, 0)) 6 = g.1 399 := hG.1.2.2.2.2.2.2.2
  rw [e6]
  try simp (disch := omega) only [pk_mul, nI_add, n_lt0, n_le0, n_eq0, n_ge0, n_gt0, n_lt, n_le, n_eq, n_in, n_div, n_rem, n_rem2, n_m1, nI_clamp, bz_0, bz_1, tI_0, tI_bz, n4, n16, eq_self, Nat.reduceLT, Nat.reduceLeDiff, Nat.reduceEqDiff, Nat.reduceAdd, Nat.reduceMul, Nat.reduceDiv, Nat.reduceMod, Nat.le_refl, decide_eq_false_iff_not, Classical.not_not, true_and, and_true, false_and, and_false, not_true_eq_false, not_false_eq_true, forall_const, true_implies, false_implies, implies_true, ne_eq]
  have J4 : ∀ (h2 : mH) (L : Nat) (τ : Sg), FX h h2 → CG h2 g → TR h2 L τ → (∀ h', FX h h' → CG h' (dne g τ).2 → p (dne g τ).1 h') → EX (Kd sL (d + 6)) sL md_X3_settle (pI p) 4 [some (.inr (.inr (.inr 0))), some (.inl (nI n))] [] h2 := by
    intro h2 L τ fx hG2 t2 hp
    refine EX.go (Kd_mono _ _) [false, false, false, false, false, false, false, false] 40 4 ?_
    dsimp only [wpc_s, wsl_t, wsl_f, gD_0, gD_s, ↓denB_n, pI_s, pG_s, pU_n, cb_X3_settle_0, cb_X3_settle_1, cb_X3_settle_2, cb_X3_settle_3, cb_X3_settle_4, cb_X3_settle_5, cb_X3_settle_6, cb_X3_settle_7, ↓ev_iload_n_1, ↓ev_if_ge, ↓ev_iret, ↓ev_aload_n_0, ↓ev_getf_3_0, ↓ev_getf_0_6, ↓ev_iconst_m1, ↓ev_icmp_eq, ↓ev_getf_3_2, ↓ev_callv_3_0_0, ↓ev_callv_3_1_0, ↓ev_callv_3_2_0, ↓ev_callv_3_3_0, ↓ev_callv_3_4_0, ↓ev_getf_2_0, ↓ev_callv_2_0_0, ↓ev_callv_2_1_0, ↓ev_callv_2_2_0, ↓ev_callv_2_3_0, ↓ev_callv_2_4_0, ↓ev_putf_0_6, ↓ev_dup, ↓ev_dupr, ↓ev_getf_3_6, ↓ev_getf_2_6, ↓ev_iadd, ↓ev_putf_3_6, ↓ev_getf_2_7, ↓ev_sipush_m1005, ↓ev_icmp_ne, ↓ev_goto, Nat.reduceAdd]
    refine k_copyFrom (i := 0) (j := 2) t2.1 (fun h3 o3 c3 => ?_)
    have q2 : h3 (.inr 2) = h2 (.inr 2) := o3.oth 2
    have hG3 := hG2.oi0 o3 c3
    have e66 : ∀ v w, hup (hup h3 (.inl (0, 0)) 6 v) (.inr 0) 6 w (.inr 2) = h2 (.inr 2) := fun v w => by
      rw [← q2]; funext k; rw [hup_other (by simp), hup_other (by simp)]
    have e67 : ∀ v, hup h3 (.inl (0, 0)) 6 v (.inr 2) = h2 (.inr 2) := fun v => by
      rw [← q2]; funext k; rw [hup_other (by simp)]
    have e68 : ∀ v, hup h3 (.inl (0, 0)) 6 v (.inr 0) 6 = g.2.2.2.2.1 := fun v => by
      rw [hup_other (by simp)]; exact hG3.2.2.2.1
    simp only [e66, e67, e68, t2.2.2.1, t2.2.2.2.1, hk_1 t2.2.2.2.2.2.2]
    have hfin : FX h (hup (hup h3 (.inl (0, 0)) 6 (-1)) (.inr 0) 6 (g.2.2.2.2.1 + nI τ.2.1)) := fx.tr (o3.fx.tr ((Oi.up (i := 0) (q := 0)).fx.tr (fx_up (by decide))))
    have hcg : CG (hup (hup h3 (.inl (0, 0)) 6 (-1)) (.inr 0) 6 (g.2.2.2.2.1 + nI τ.2.1)) (dne g τ).2 := by
      obtain ⟨a1, a2, a3, a4, a5, a6, a7, a8⟩ := hG3
      refine ⟨(a1.tear _).up2 _ _ _, fun z => ((a2 z).oth (Oi.up (i := 0)) (by decide)).up2 _ _ _, ?_, ?_, fun j hj => ?_, ?_, a7, fun j hj => ?_⟩
      · rw [hup_idx (by decide), hup_other (by simp)]; exact a3
      · rw [hup_same]; rfl
      · rw [hup_other (by simp), hup_other (by simp)]; exact a5 j hj
      · rw [hup_other (by simp), hup_other (by simp)]; exact a6
      · rw [hup_other (by simp), hup_other (by simp)]; exact a8 j hj
    have hp9 := hp _ hfin hcg
    unfold dne at hp9
    dsimp only at hp9
    refine ⟨fun c1 => ?_, fun c1 => ?_⟩
    · rwa [if_neg c1] at hp9
    · rwa [if_pos (by simpa using c1)] at hp9
  refine ⟨fun c1 => ?_, fun c1 => ?_⟩
  · unfold tau2 at hp
    rw [if_pos c1] at hp
    exact J4 h 1000000 _ FX.rf hG hT hp
  · unfold tau2 at hp
    rw [if_neg c1] at hp
    obtain ⟨t, ht, et⟩ := hwt.resolve_left c1
    rw [et] at hp ⊢
    rw [nI_clamp (by omega)] at hp
    refine hD _ h t _ (fun _ _ _ => rfl) hG.1 (by omega) (fun h2 o2 t2 => ?_)
    exact J4 h2 t _ o2.fx (hG.ov o2) t2 hp
/-- foresee, then settle -/
theorem k_deed {kd : Nat} {a b c : Int32} (hG : CG h g) (hw : W0 g.1) (hwt : wT g.1) (hkd : kd < 8) (hp : ∀ h', FX h h' → CG h' (aDeed g kd a b c).2 → p (aDeed g kd a b c).1 h') : mI (Kd sL (d + 7)) 89 [.inr (.inr (.inr 0)), .inl (nI kd), .inl a, .inl b, .inl c] h (fun x h' => mI (Kd sL (d + 7)) 90 [.inr (.inr (.inr 0)), .inl x] h' p) := by
  unfold aDeed at hp
  refine k_foresee hG hw hkd (fun c1 h1 f1 g1 => ?_) (fun c1 c2 h1 f1 g1 => ?_) (fun c1 c2 c3 c4 h1 f1 g1 => ?_) (fun c1 c2 c3 c4 c5 h1 f1 g1 => ?_) (fun c1 c2 c3 c4 c5 h1 f1 g1 t1 d1 => ?_)
  · rw [if_neg (by rw [dec_t]; exact c1)] at hp
    exact k_settle_neg (rc_neg 0) (hp h1 f1 g1)
  · rw [if_pos (by rw [dec_t]; exact c1), if_pos (by rw [Bool.or_eq_true, dec_t]; exact c2)] at hp
    exact k_settle_neg (rc_neg 2) (hp h1 f1 g1)
  · rw [if_pos (by rw [dec_t]; exact c1), if_neg (by rw [Bool.or_eq_true, dec_t, c2]; exact fun z => z.elim (by decide) c3), if_pos c4] at hp
    exact k_settle_neg (rc_neg 3) (hp h1 f1 g1)
  · rw [if_pos (by rw [dec_t]; exact c1), if_neg (by rw [Bool.or_eq_true, dec_t, c2]; exact fun z => z.elim (by decide) c3), if_neg (by rw [c4]; decide), if_pos c5] at hp
    exact k_settle_neg (rc_neg 1) (hp h1 f1 g1)
  · rw [if_pos (by rw [dec_t]; exact c1), if_neg (by rw [Bool.or_eq_true, dec_t, c2]; exact fun z => z.elim (by decide) c3), if_neg (by rw [c4]; decide), if_neg c5] at hp
    exact k_settle g1 hwt t1 rfl d1 (fun h2 f2 g2 => hp h2 (f1.tr f2) g2)
end PUB
