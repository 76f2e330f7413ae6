/-! ===== class TornLayers: the rest, the tape's reading aside ===== -/
noncomputable def frd (S : St) (s : Nat) : Nat := fb_ct (fun c => freeP (drp 1000000 s (S, 0, 0)).1 c && !freeP S c) 64
noncomputable def bs1 (S : St) (s : Nat) : Int32 := if sn S s = -1 then -1 else nI (frd S s)
noncomputable def bsF (S : St) : Nat → Int32 × Int32
  | 0 => (-1, -1)
  | s + 1 => if bs1 S s ≤ (bsF S s).2 then bsF S s else (nI s, bs1 S s)
noncomputable def aBest (g : Gs) (w : Int32) : Int32 × Gs := if dec (w = 0 ∨ w = nI 1) then (if lk g.1 then (-1, g) else (if w = 0 then (bsF g.1 8).1 else (bsF g.1 8).2, g)) else rfA g 0
/-- a deed foreseen: how many writes, or a refusal -/
noncomputable def aFore (g : Gs) (kd : Nat) (a b c : Int32) : Int32 × Gs :=
  if dec (fit g.1 kd a b c) then (if lk g.1 || dec (hin g.1 kd a) then rfA g 2 else if rnd g.1 kd a b then rfA g 3 else if (tau g.1 kd a b c).2.2 = 2 then rfA g 1 else (nI (tau g.1 kd a b c).2.1, g)) else rfA g 0
/-- a write thought of: an answer, or a refusal -/
noncomputable def aThk (g : Gs) (l pl v : Int32) (x : Int32) : Int32 × Gs :=
  if dec (fit g.1 0 l pl v) then (if lk g.1 then rfA g 2 else if (tau g.1 0 l pl v).2.2 = 2 then rfA g 1 else (x, g)) else rfA g 0
noncomputable def aTorn (g : Gs) (l pl v n : Int32) : Int32 × Gs := if dec (okN n 100) then aThk g l pl v (rdf (act g.1 0 l pl v n.toNatClampNeg (g.1, 0, 0)).1 6 l pl.toNatClampNeg) else rfA g 0
noncomputable def aLeaks (g : Gs) (l pl n : Int32) : Int32 × Gs := if dec (okN n 100) then aThk g l pl 0 (nI (fb_ct (leakP (act g.1 0 l pl 0 n.toNatClampNeg (g.1, 0, 0)).1) 64)) else rfA g 0
noncomputable def bhF (S : St) (l pl v : Int32) : Nat → Nat → Int32
  | 0, n => nI n
  | f + 1, n => if rdf (act S 0 l pl v n (S, 0, 0)).1 6 l pl.toNatClampNeg = v then nI n else bhF S l pl v f (n + 1)
noncomputable def aBehind (g : Gs) (l pl v : Int32) : Int32 × Gs := aThk g l pl v (if rdf g.1 6 l pl.toNatClampNeg = v then -1 else bhF g.1 l pl v (tau g.1 0 l pl v).2.1 0)
noncomputable def rmF (S : St) (l : Nat) : Nat → Nat → Nat
  | 0, k => k
  | f + 1, k => if (rwF 1000000 l (k + 1) (S, 0, 0)).2.2 = 2 then k else rmF S l f (k + 1)
noncomputable def aRoom (g : Gs) (l : Int32) : Int32 × Gs := if dec (okL g.1 l) then (if lk g.1 then rfA g 2 else (nI (rmF g.1 l.toNatClampNeg 64 0), g)) else rfA g 0
def byt (x : Int64) (i : Nat) : Nat := (x.toUInt64 >>> ((nI (8 * i)).toInt64.toUInt64 &&& Int64.toUInt64 63)).toInt64.toInt32.toBitVec.toNat % 256
def gtp (g : Gs) (n : Nat) (f : Nat → Nat) : Gs := (g.1, g.2.1, g.2.2.1, g.2.2.2.1, g.2.2.2.2.1, n, f)
def tpc (g : Gs) (x : Int64) (n : Nat) : Nat → Nat := fun j => if g.2.2.2.2.2.1 ≤ j ∧ j < g.2.2.2.2.2.1 + n then byt x (j - g.2.2.2.2.2.1) else g.2.2.2.2.2.2 j
noncomputable def aFeed (g : Gs) (x : Int64) (n : Int32) : Int32 × Gs := if dec (nI 1 ≤ n ∧ n ≤ nI 8) then (if dec (g.2.2.2.2.2.1 + n.toNatClampNeg ≤ 120) then (nI (g.2.2.2.2.2.1 + n.toNatClampNeg), gtp g (g.2.2.2.2.2.1 + n.toNatClampNeg) (tpc g x n.toNatClampNeg)) else rfA g 1) else rfA g 0
def aWipe (g : Gs) : Int32 × Gs := (nI g.2.2.2.2.2.1, gtp g 0 g.2.2.2.2.2.2)
noncomputable def fre (S : St) : Int32 := nI (fb_ct (freeP S) 64)
noncomputable def aKeep (g : Gs) : Int32 × Gs := (fre g.1, (g.1, g.1, true, g.2.2.2))
noncomputable def aAgain (g : Gs) : Int32 × Gs := if g.2.2.1 then (fre g.2.1, gwS g g.2.1) else rfA g 2
noncomputable def aCount (g : Gs) (w : Int32) : Int32 × Gs := if w = nI 0 then (nI (mn g.1), g) else if w = nI 1 then (iOr (fun s => decide (¬ sn g.1 s = -1)) 8, g) else if w = nI 2 then (fre g.1, g) else if w = nI 3 then (g.1 399, g) else if w = nI 4 then (nI g.2.2.2.2.2.1, g) else if w = nI 5 then (g.2.2.2.2.1, g) else rfA g 0
noncomputable def aRefused (g : Gs) (w : Int32) : Int32 × Gs := if dec (okN w 4) then (g.2.2.2.1 w.toNatClampNeg, g) else rfA g 0
theorem lOr_andn {P Q : Nat → Bool} : lOr P 64 &&& (lOr Q 64 ^^^ lN 18446744073709551615) = lOr (fun c => P c && !Q c) 64 := lOr_eq (fun c hc => by
  rw [tbit_and, tbit_xor, tbit_m1 c hc, tbit_lOr _ 64 c (by omega), tbit_lOr _ 64 c (by omega)]
  simp [hc])
section PB4
variable {sL d : Nat} {h : mH} {g : Gs} {p : Int32 → mH → Prop}
theorem CR.st2 {h h2 : mH} {i : Fin 3} {S : St} (hC : CR h i S) (hv : ∀ r, r ≠ .inr 2 → h2 r = h r) : CR h2 i S := by
  obtain ⟨w1, w2, w3, w4, w5, w6, w7, w8⟩ := hC
  refine ⟨?_, ?_, ?_, ?_, ?_, ?_, w7, ?_⟩
  all_goals (rw [hv _ (by simp)]; assumption)
theorem CG.st2 {h2 : mH} (hG : CG h g) (hv : ∀ r, r ≠ .inr 2 → h2 r = h r) : CG h2 g := by
  obtain ⟨q1, q2, q3, q4, q5, q6, q7, q8⟩ := hG
  refine ⟨q1.st2 hv, fun z => (q2 z).st2 hv, ?_, ?_, ?_, ?_, q7, ?_⟩
  all_goals (rw [hv _ (by simp)]; assumption)
theorem fx_st2 {h2 : mH} (hv : ∀ r, r ≠ .inr 2 → h2 r = h r) : FX h h2 := fun n hn => hv _ (fun z => by cases z; omega)
theorem c_holders {c : Int32} (hG : CG h g) (hp : ∀ h', FX h h' → CG h' (aHolders g c).2 → p (aHolders g c).1 h') : mI (Kd sL (d + 9)) 73 [.inr (.inr (.inr 0)), .inl c] h p := by
  refine ke_X3_holders ?_
  refine EX.go (Kd_mono _ _) [false, false, false, true, false, false, false, false, false, false, false] 40 0 ?_
  dsimp only [wpc_s, wsl_t, wsl_f, gD_0, gD_s, ↓denB_n, pI_s, pG_s, pU_n, cb_X3_holders_0, cb_X3_holders_1, cb_X3_holders_2, cb_X3_holders_3, cb_X3_holders_4, cb_X3_holders_5, cb_X3_holders_6, cb_X3_holders_7, cb_X3_holders_8, cb_X3_holders_9, cb_X3_holders_10, ↓ev_iload_n_1, ↓ev_calls_1_0_1, ↓ev_calls_1_1_1, ↓ev_calls_1_2_1, ↓ev_calls_1_3_1, ↓ev_calls_1_4_1, ↓ev_if_ne, ↓ev_aload_n_0, ↓ev_sipush_m1001, ↓ev_callv_2_0_1, ↓ev_callv_2_1_1, ↓ev_callv_2_2_1, ↓ev_callv_2_3_1, ↓ev_callv_2_4_1, ↓ev_iret, ↓ev_iconst_0, ↓ev_istore_n_2, ↓ev_istore_n_3, ↓ev_iload_n_3, ↓ev_bipush_14, ↓ev_icmp_ge, ↓ev_getf_3_0, ↓ev_callv_2_0_2, ↓ev_callv_2_1_2, ↓ev_callv_2_2_2, ↓ev_callv_2_3_2, ↓ev_callv_2_4_2, ↓ev_calls_2_0_1, ↓ev_calls_2_1_1, ↓ev_calls_2_2_1, ↓ev_calls_2_3_1, ↓ev_calls_2_4_1, ↓ev_if_eq, ↓ev_iload_n_2, ↓ev_iconst_1, ↓ev_bipush_6, ↓ev_goto, ↓ev_isub, ↓ev_bipush_10, ↓ev_iadd, ↓ev_ishl, ↓ev_ior, ↓ev_iinc_3_1, Nat.reduceAdd]
  unfold aHolders at hp
  refine k_isClusterD ?_
  try simp (disch := omega) only [pk_mul, nI_add, n_lt0, n_le0, n_eq0, n_ge0, n_gt0, n_lt, n_le, n_eq, n_in, n_div, n_rem, n_rem2, n_m1, nI_clamp, bz_0, bz_1, tI_0, tI_bz, n4, n16, eq_self, Nat.reduceLT, Nat.reduceLeDiff, Nat.reduceEqDiff, Nat.reduceAdd, Nat.reduceMul, Nat.reduceDiv, Nat.reduceMod, Nat.le_refl, decide_eq_false_iff_not, Classical.not_not, true_and, and_true, false_and, and_false, not_true_eq_false, not_false_eq_true, forall_const, true_implies, false_implies, implies_true, ne_eq, dec_f]
  refine ⟨fun c1 => ?_, fun c1 => ?_⟩
  · rw [if_pos (by rw [dec_t]; exact c1)] at hp
    obtain ⟨k, hk1, hk, rfl⟩ := pc_x c1
    rw [nI_clamp (by omega)] at hp
    have hp := hp h FX.rf hG
    dsimp only at hp
    suffices H : ∀ (f x : Nat), x + f = 14 → EX (Kd sL (d + 8)) sL md_X3_holders (pI p) 3 [some (.inr (.inr (.inr 0))), some (.inl (nI k)), some (.inl (hoF g.1 k x)), some (.inl (nI x))] [] h from H 14 0 rfl
    intro f
    induction f with
    | zero =>
      intro x hx
      refine EX.go (Kd_mono _ _) [false, false, false, true, false, false, false, false, false, false, false] 40 3 ?_
      dsimp only [wpc_s, wsl_t, wsl_f, gD_0, gD_s, ↓denB_n, pI_s, pG_s, pU_n, cb_X3_holders_0, cb_X3_holders_1, cb_X3_holders_2, cb_X3_holders_3, cb_X3_holders_4, cb_X3_holders_5, cb_X3_holders_6, cb_X3_holders_7, cb_X3_holders_8, cb_X3_holders_9, cb_X3_holders_10, ↓ev_iload_n_1, ↓ev_calls_1_0_1, ↓ev_calls_1_1_1, ↓ev_calls_1_2_1, ↓ev_calls_1_3_1, ↓ev_calls_1_4_1, ↓ev_if_ne, ↓ev_aload_n_0, ↓ev_sipush_m1001, ↓ev_callv_2_0_1, ↓ev_callv_2_1_1, ↓ev_callv_2_2_1, ↓ev_callv_2_3_1, ↓ev_callv_2_4_1, ↓ev_iret, ↓ev_iconst_0, ↓ev_istore_n_2, ↓ev_istore_n_3, ↓ev_iload_n_3, ↓ev_bipush_14, ↓ev_icmp_ge, ↓ev_getf_3_0, ↓ev_callv_2_0_2, ↓ev_callv_2_1_2, ↓ev_callv_2_2_2, ↓ev_callv_2_3_2, ↓ev_callv_2_4_2, ↓ev_calls_2_0_1, ↓ev_calls_2_1_1, ↓ev_calls_2_2_1, ↓ev_calls_2_3_1, ↓ev_calls_2_4_1, ↓ev_if_eq, ↓ev_iload_n_2, ↓ev_iconst_1, ↓ev_bipush_6, ↓ev_goto, ↓ev_isub, ↓ev_bipush_10, ↓ev_iadd, ↓ev_ishl, ↓ev_ior, ↓ev_iinc_3_1, Nat.reduceAdd]
      try simp (disch := omega) only [pk_mul, nI_add, n_lt0, n_le0, n_eq0, n_ge0, n_gt0, n_lt, n_le, n_eq, n_in, n_div, n_rem, n_rem2, n_m1, nI_clamp, bz_0, bz_1, tI_0, tI_bz, n4, n16, eq_self, Nat.reduceLT, Nat.reduceLeDiff, Nat.reduceEqDiff, Nat.reduceAdd, Nat.reduceMul, Nat.reduceDiv, Nat.reduceMod, Nat.le_refl, decide_eq_false_iff_not, Classical.not_not, true_and, and_true, false_and, and_false, not_true_eq_false, not_false_eq_true, forall_const, true_implies, false_implies, implies_true, ne_eq]
      rw [show x = 14 by omega]
      exact ⟨fun _ => hp, fun c => absurd (Nat.le_refl 14) c⟩
    | succ f ih =>
      intro x hx
      refine EX.go (Kd_mono _ _) [false, false, false, true, false, false, false, false, false, false, false] 40 3 ?_
      dsimp only [wpc_s, wsl_t, wsl_f, gD_0, gD_s, ↓denB_n, pI_s, pG_s, pU_n, cb_X3_holders_0, cb_X3_holders_1, cb_X3_holders_2, cb_X3_holders_3, cb_X3_holders_4, cb_X3_holders_5, cb_X3_holders_6, cb_X3_holders_7, cb_X3_holders_8, cb_X3_holders_9, cb_X3_holders_10, ↓ev_iload_n_1, ↓ev_calls_1_0_1, ↓ev_calls_1_1_1, ↓ev_calls_1_2_1, ↓ev_calls_1_3_1, ↓ev_calls_1_4_1, ↓ev_if_ne, ↓ev_aload_n_0, ↓ev_sipush_m1001, ↓ev_callv_2_0_1, ↓ev_callv_2_1_1, ↓ev_callv_2_2_1, ↓ev_callv_2_3_1, ↓ev_callv_2_4_1, ↓ev_iret, ↓ev_iconst_0, ↓ev_istore_n_2, ↓ev_istore_n_3, ↓ev_iload_n_3, ↓ev_bipush_14, ↓ev_icmp_ge, ↓ev_getf_3_0, ↓ev_callv_2_0_2, ↓ev_callv_2_1_2, ↓ev_callv_2_2_2, ↓ev_callv_2_3_2, ↓ev_callv_2_4_2, ↓ev_calls_2_0_1, ↓ev_calls_2_1_1, ↓ev_calls_2_2_1, ↓ev_calls_2_3_1, ↓ev_calls_2_4_1, ↓ev_if_eq, ↓ev_iload_n_2, ↓ev_iconst_1, ↓ev_bipush_6, ↓ev_goto, ↓ev_isub, ↓ev_bipush_10, ↓ev_iadd, ↓ev_ishl, ↓ev_ior, ↓ev_iinc_3_1, Nat.reduceAdd]
      try simp (disch := omega) only [pk_mul, nI_add, n_lt0, n_le0, n_eq0, n_ge0, n_gt0, n_lt, n_le, n_eq, n_in, n_div, n_rem, n_rem2, n_m1, nI_clamp, bz_0, bz_1, tI_0, tI_bz, n4, n16, eq_self, Nat.reduceLT, Nat.reduceLeDiff, Nat.reduceEqDiff, Nat.reduceAdd, Nat.reduceMul, Nat.reduceDiv, Nat.reduceMod, Nat.le_refl, decide_eq_false_iff_not, Classical.not_not, true_and, and_true, false_and, and_false, not_true_eq_false, not_false_eq_true, forall_const, true_implies, false_implies, implies_true, ne_eq]
      refine ⟨fun c => absurd c (by omega), fun _ => ?_⟩
      refine k_heldBy hG.1 (by omega) ?_
      refine k_isIn hk ?_
      have ih := ih (x + 1) (by omega)
      rw [hoF] at ih
      unfold hbit at ih
      try simp (disch := omega) only [pk_mul, nI_add, n_lt0, n_le0, n_eq0, n_ge0, n_gt0, n_lt, n_le, n_eq, n_in, n_div, n_rem, n_rem2, n_m1, nI_clamp, bz_0, bz_1, tI_0, tI_bz, n4, n16, eq_self, Nat.reduceLT, Nat.reduceLeDiff, Nat.reduceEqDiff, Nat.reduceAdd, Nat.reduceMul, Nat.reduceDiv, Nat.reduceMod, Nat.le_refl, decide_eq_false_iff_not, Classical.not_not, true_and, and_true, false_and, and_false, not_true_eq_false, not_false_eq_true, forall_const, true_implies, false_implies, implies_true, ne_eq, dec_f]
      refine ⟨fun c2 => ?_, fun c2 => ⟨fun c3 => ?_, fun c3 => ?_⟩⟩
      · rwa [if_neg (by rw [dec_t]; exact c2)] at ih
      · rw [if_pos (by rw [dec_t]; exact c2), if_neg (by omega)] at ih
        try simp (disch := omega) only [pk_mul, nI_add, n_lt0, n_le0, n_eq0, n_ge0, n_gt0, n_lt, n_le, n_eq, n_in, n_div, n_rem, n_rem2, n_m1, nI_clamp, bz_0, bz_1, tI_0, tI_bz, n4, n16, eq_self, Nat.reduceLT, Nat.reduceLeDiff, Nat.reduceEqDiff, Nat.reduceAdd, Nat.reduceMul, Nat.reduceDiv, Nat.reduceMod, Nat.le_refl, decide_eq_false_iff_not, Classical.not_not, true_and, and_true, false_and, and_false, not_true_eq_false, not_false_eq_true, forall_const, true_implies, false_implies, implies_true, ne_eq, n_sub]
        rwa [show x - 6 + 10 = x + 4 by omega]
      · rwa [if_pos (by rw [dec_t]; exact c2), if_pos (by omega)] at ih
  · rw [if_neg (by rw [dec_t]; exact c1)] at hp
    exact k_rfA (j := 0) hG (by decide) hp
theorem k_freedByDrop {s : Nat} (hG : CG h g) (hs : s < 8) (hp : ∀ h', FX h h' → CG h' g → p (nI (frd g.1 s)) h') : mI (Kd sL (d + 7)) 94 [.inr (.inr (.inr 0)), .inl (nI s)] h p := by
  refine ke_X3_freedByDrop ?_
  refine EX.go (Kd_mono _ _) [false] 40 0 ?_
  dsimp only [wpc_s, wsl_t, wsl_f, gD_0, gD_s, ↓denB_n, pI_s, pG_s, pU_n, cb_X3_freedByDrop_0, ↓ev_aload_n_0, ↓ev_getf_3_2, ↓ev_iconst_2, ↓ev_iload_n_1, ↓ev_iconst_0, ↓ev_callv_5_0_0, ↓ev_callv_5_1_0, ↓ev_callv_5_2_0, ↓ev_callv_5_3_0, ↓ev_callv_5_4_0, ↓ev_getf_3_0, ↓ev_ldc_1000000, ↓ev_callv_3_0_0, ↓ev_callv_3_1_0, ↓ev_callv_3_2_0, ↓ev_callv_3_3_0, ↓ev_callv_3_4_0, ↓ev_getf_2_0, ↓ev_callv_1_0_2, ↓ev_callv_1_1_2, ↓ev_callv_1_2_2, ↓ev_callv_1_3_2, ↓ev_callv_1_4_2, ↓ev_ldc2_18446744073709551615, ↓ev_lxor, ↓ev_land, ↓ev_calls_1_0_1, ↓ev_calls_1_1_1, ↓ev_calls_1_2_1, ↓ev_calls_1_3_1, ↓ev_calls_1_4_1, ↓ev_iret, Nat.reduceAdd]
  refine k_set (fun h1 v1 e1 e2 e3 e4 => ?_)
  have hG1 := hG.st2 v1
  refine k_go_drop hG1.1 (Nat.le_refl _) e1 e2 hs (fun h2 o2 t2 => ?_)
  have hG2 := hG1.ov o2
  refine k_freeSet t2.1 ?_
  refine k_freeSet hG2.1 ?_
  rw [lOr_andn]
  refine k_bitCount ?_
  exact hp h2 ((fx_st2 v1).tr o2.fx) hG2
theorem c_best {w : Int32} (hG : CG h g) (hp : ∀ h', FX h h' → CG h' (aBest g w).2 → p (aBest g w).1 h') : mI (Kd sL (d + 9)) 74 [.inr (.inr (.inr 0)), .inl w] h p := by
  refine ke_X3_best ?_
  refine EX.go (Kd_mono _ _) [false, false, false, true, false, false, true, false, false, false, false, false, false, false, false, false, false] 40 0 ?_
  dsimp only [wpc_s, wsl_t, wsl_f, gD_0, gD_s, ↓denB_n, pI_s, pG_s, pU_n, cb_X3_best_0, cb_X3_best_1, cb_X3_best_2, cb_X3_best_3, cb_X3_best_4, cb_X3_best_5, cb_X3_best_6, cb_X3_best_7, cb_X3_best_8, cb_X3_best_9, cb_X3_best_10, cb_X3_best_11, cb_X3_best_12, cb_X3_best_13, cb_X3_best_14, cb_X3_best_15, cb_X3_best_16, ↓ev_iload_n_1, ↓ev_if_eq, ↓ev_iconst_1, ↓ev_icmp_eq, ↓ev_aload_n_0, ↓ev_sipush_m1001, ↓ev_callv_2_0_1, ↓ev_callv_2_1_1, ↓ev_callv_2_2_1, ↓ev_callv_2_3_1, ↓ev_callv_2_4_1, ↓ev_iret, ↓ev_getf_3_0, ↓ev_callv_1_0_2, ↓ev_callv_1_1_2, ↓ev_callv_1_2_2, ↓ev_callv_1_3_2, ↓ev_callv_1_4_2, ↓ev_lconst_0, ↓ev_lcmp, ↓ev_iconst_m1, ↓ev_istore_n_2, ↓ev_istore_n_3, ↓ev_iconst_0, ↓ev_istore_4, ↓ev_iload_4, ↓ev_bipush_8, ↓ev_icmp_ge, ↓ev_goto, ↓ev_istore_5, ↓ev_iload_5, ↓ev_iload_n_3, ↓ev_icmp_le, ↓ev_iinc_4_1, ↓ev_if_ne, ↓ev_iload_n_2, Nat.reduceAdd]
  unfold aBest at hp
  have J3 : (w = 0 ∨ w = nI 1) → EX (Kd sL (d + 8)) sL md_X3_best (pI p) 3 [some (.inr (.inr (.inr 0))), some (.inl w), none, none, none, none] [] h := by
    intro hw
    rw [if_pos (by rw [dec_t]; exact hw)] at hp
    refine EX.go (Kd_mono _ _) [false, false, false, false, false, false, true, false, false, false, false, false, false, false, false, false, false] 40 3 ?_
    dsimp only [wpc_s, wsl_t, wsl_f, gD_0, gD_s, ↓denB_n, pI_s, pG_s, pU_n, cb_X3_best_0, cb_X3_best_1, cb_X3_best_2, cb_X3_best_3, cb_X3_best_4, cb_X3_best_5, cb_X3_best_6, cb_X3_best_7, cb_X3_best_8, cb_X3_best_9, cb_X3_best_10, cb_X3_best_11, cb_X3_best_12, cb_X3_best_13, cb_X3_best_14, cb_X3_best_15, cb_X3_best_16, ↓ev_iload_n_1, ↓ev_if_eq, ↓ev_iconst_1, ↓ev_icmp_eq, ↓ev_aload_n_0, ↓ev_sipush_m1001, ↓ev_callv_2_0_1, ↓ev_callv_2_1_1, ↓ev_callv_2_2_1, ↓ev_callv_2_3_1, ↓ev_callv_2_4_1, ↓ev_iret, ↓ev_getf_3_0, ↓ev_callv_1_0_2, ↓ev_callv_1_1_2, ↓ev_callv_1_2_2, ↓ev_callv_1_3_2, ↓ev_callv_1_4_2, ↓ev_lconst_0, ↓ev_lcmp, ↓ev_iconst_m1, ↓ev_istore_n_2, ↓ev_istore_n_3, ↓ev_iconst_0, ↓ev_istore_4, ↓ev_iload_4, ↓ev_bipush_8, ↓ev_icmp_ge, ↓ev_goto, ↓ev_istore_5, ↓ev_iload_5, ↓ev_iload_n_3, ↓ev_icmp_le, ↓ev_iinc_4_1, ↓ev_if_ne, ↓ev_iload_n_2, Nat.reduceAdd]
    refine k_lackSet hG.1 (fun h1 o1 c1 => ?_)
    have hG1 := hG.oi o1 c1
    try simp (disch := omega) only [pk_mul, nI_add, n_lt0, n_le0, n_eq0, n_ge0, n_gt0, n_lt, n_le, n_eq, n_in, n_div, n_rem, n_rem2, n_m1, nI_clamp, bz_0, bz_1, tI_0, tI_bz, n4, n16, eq_self, Nat.reduceLT, Nat.reduceLeDiff, Nat.reduceEqDiff, Nat.reduceAdd, Nat.reduceMul, Nat.reduceDiv, Nat.reduceMod, Nat.le_refl, decide_eq_false_iff_not, Classical.not_not, true_and, and_true, false_and, and_false, not_true_eq_false, not_false_eq_true, forall_const, true_implies, false_implies, implies_true, ne_eq, lg_cmp0, lk_lOr]
    refine ⟨fun c2 => ?_, fun c2 => by
      rw [if_pos (by simpa using c2)] at hp
      exact hp h1 o1.fx hG1⟩
    · rw [if_neg (by rw [c2]; decide)] at hp
      suffices H : ∀ (f x : Nat) (y : Option mV) (h' : mH), x + f = 8 → FX h h' → CG h' g → EX (Kd sL (d + 8)) sL md_X3_best (pI p) 6 [some (.inr (.inr (.inr 0))), some (.inl w), some (.inl (bsF g.1 x).1), some (.inl (bsF g.1 x).2), some (.inl (nI x)), y] [] h' from H 8 0 _ h1 rfl o1.fx hG1
      intro f
      induction f with
      | zero =>
        intro x y h' hx fx hG'
        refine EX.go (Kd_mono _ _) [false, false, false, false, false, false, true, false, false, false, false, false, false, false, false, false, false] 40 6 ?_
        dsimp only [wpc_s, wsl_t, wsl_f, gD_0, gD_s, ↓denB_n, pI_s, pG_s, pU_n, cb_X3_best_0, cb_X3_best_1, cb_X3_best_2, cb_X3_best_3, cb_X3_best_4, cb_X3_best_5, cb_X3_best_6, cb_X3_best_7, cb_X3_best_8, cb_X3_best_9, cb_X3_best_10, cb_X3_best_11, cb_X3_best_12, cb_X3_best_13, cb_X3_best_14, cb_X3_best_15, cb_X3_best_16, ↓ev_iload_n_1, ↓ev_if_eq, ↓ev_iconst_1, ↓ev_icmp_eq, ↓ev_aload_n_0, ↓ev_sipush_m1001, ↓ev_callv_2_0_1, ↓ev_callv_2_1_1, ↓ev_callv_2_2_1, ↓ev_callv_2_3_1, ↓ev_callv_2_4_1, ↓ev_iret, ↓ev_getf_3_0, ↓ev_callv_1_0_2, ↓ev_callv_1_1_2, ↓ev_callv_1_2_2, ↓ev_callv_1_3_2, ↓ev_callv_1_4_2, ↓ev_lconst_0, ↓ev_lcmp, ↓ev_iconst_m1, ↓ev_istore_n_2, ↓ev_istore_n_3, ↓ev_iconst_0, ↓ev_istore_4, ↓ev_iload_4, ↓ev_bipush_8, ↓ev_icmp_ge, ↓ev_goto, ↓ev_istore_5, ↓ev_iload_5, ↓ev_iload_n_3, ↓ev_icmp_le, ↓ev_iinc_4_1, ↓ev_if_ne, ↓ev_iload_n_2, Nat.reduceAdd]
        try simp (disch := omega) only [pk_mul, nI_add, n_lt0, n_le0, n_eq0, n_ge0, n_gt0, n_lt, n_le, n_eq, n_in, n_div, n_rem, n_rem2, n_m1, nI_clamp, bz_0, bz_1, tI_0, tI_bz, n4, n16, eq_self, Nat.reduceLT, Nat.reduceLeDiff, Nat.reduceEqDiff, Nat.reduceAdd, Nat.reduceMul, Nat.reduceDiv, Nat.reduceMod, Nat.le_refl, decide_eq_false_iff_not, Classical.not_not, true_and, and_true, false_and, and_false, not_true_eq_false, not_false_eq_true, forall_const, true_implies, false_implies, implies_true, ne_eq]
        rw [show x = 8 by omega]
        refine ⟨fun _ => ?_, fun c => absurd (Nat.le_refl 8) c⟩
        have hp := hp h' fx hG'
        dsimp only at hp
        refine ⟨fun c => ?_, fun c => ?_⟩
        · rwa [if_neg c] at hp
        · rwa [if_pos (by simpa using c)] at hp
      | succ f ih =>
        intro x y h' hx fx hG'
        refine EX.go (Kd_mono _ _) [false, false, false, false, false, false, true, false, false, false, true, false, false, false, false, false, false] 40 6 ?_
        dsimp only [wpc_s, wsl_t, wsl_f, gD_0, gD_s, ↓denB_n, pI_s, pG_s, pU_n, cb_X3_best_0, cb_X3_best_1, cb_X3_best_2, cb_X3_best_3, cb_X3_best_4, cb_X3_best_5, cb_X3_best_6, cb_X3_best_7, cb_X3_best_8, cb_X3_best_9, cb_X3_best_10, cb_X3_best_11, cb_X3_best_12, cb_X3_best_13, cb_X3_best_14, cb_X3_best_15, cb_X3_best_16, ↓ev_iload_n_1, ↓ev_if_eq, ↓ev_iconst_1, ↓ev_icmp_eq, ↓ev_aload_n_0, ↓ev_sipush_m1001, ↓ev_callv_2_0_1, ↓ev_callv_2_1_1, ↓ev_callv_2_2_1, ↓ev_callv_2_3_1, ↓ev_callv_2_4_1, ↓ev_iret, ↓ev_getf_3_0, ↓ev_callv_1_0_2, ↓ev_callv_1_1_2, ↓ev_callv_1_2_2, ↓ev_callv_1_3_2, ↓ev_callv_1_4_2, ↓ev_lconst_0, ↓ev_lcmp, ↓ev_iconst_m1, ↓ev_istore_n_2, ↓ev_istore_n_3, ↓ev_iconst_0, ↓ev_istore_4, ↓ev_iload_4, ↓ev_bipush_8, ↓ev_icmp_ge, ↓ev_goto, ↓ev_istore_5, ↓ev_iload_5, ↓ev_iload_n_3, ↓ev_icmp_le, ↓ev_iinc_4_1, ↓ev_if_ne, ↓ev_iload_n_2, Nat.reduceAdd]
        try simp (disch := omega) only [pk_mul, nI_add, n_lt0, n_le0, n_eq0, n_ge0, n_gt0, n_lt, n_le, n_eq, n_in, n_div, n_rem, n_rem2, n_m1, nI_clamp, bz_0, bz_1, tI_0, tI_bz, n4, n16, eq_self, Nat.reduceLT, Nat.reduceLeDiff, Nat.reduceEqDiff, Nat.reduceAdd, Nat.reduceMul, Nat.reduceDiv, Nat.reduceMod, Nat.le_refl, decide_eq_false_iff_not, Classical.not_not, true_and, and_true, false_and, and_false, not_true_eq_false, not_false_eq_true, forall_const, true_implies, false_implies, implies_true, ne_eq]
        refine ⟨fun c => absurd c (by omega), fun _ => ?_⟩
        have J10 : ∀ h2, FX h h2 → CG h2 g → EX (Kd sL (d + 8)) sL md_X3_best (pI p) 10 [some (.inr (.inr (.inr 0))), some (.inl w), some (.inl (bsF g.1 x).1), some (.inl (bsF g.1 x).2), some (.inl (nI x)), y] [.inl (bs1 g.1 x)] h2 := by
          intro h2 fx2 hG2
          refine EX.go (Kd_mono _ _) [false, false, false, false, false, false, true, false, false, false, false, false, false, false, false, false, false] 40 10 ?_
          dsimp only [wpc_s, wsl_t, wsl_f, gD_0, gD_s, ↓denB_n, pI_s, pG_s, pU_n, cb_X3_best_0, cb_X3_best_1, cb_X3_best_2, cb_X3_best_3, cb_X3_best_4, cb_X3_best_5, cb_X3_best_6, cb_X3_best_7, cb_X3_best_8, cb_X3_best_9, cb_X3_best_10, cb_X3_best_11, cb_X3_best_12, cb_X3_best_13, cb_X3_best_14, cb_X3_best_15, cb_X3_best_16, ↓ev_iload_n_1, ↓ev_if_eq, ↓ev_iconst_1, ↓ev_icmp_eq, ↓ev_aload_n_0, ↓ev_sipush_m1001, ↓ev_callv_2_0_1, ↓ev_callv_2_1_1, ↓ev_callv_2_2_1, ↓ev_callv_2_3_1, ↓ev_callv_2_4_1, ↓ev_iret, ↓ev_getf_3_0, ↓ev_callv_1_0_2, ↓ev_callv_1_1_2, ↓ev_callv_1_2_2, ↓ev_callv_1_3_2, ↓ev_callv_1_4_2, ↓ev_lconst_0, ↓ev_lcmp, ↓ev_iconst_m1, ↓ev_istore_n_2, ↓ev_istore_n_3, ↓ev_iconst_0, ↓ev_istore_4, ↓ev_iload_4, ↓ev_bipush_8, ↓ev_icmp_ge, ↓ev_goto, ↓ev_istore_5, ↓ev_iload_5, ↓ev_iload_n_3, ↓ev_icmp_le, ↓ev_iinc_4_1, ↓ev_if_ne, ↓ev_iload_n_2, Nat.reduceAdd]
          try simp (disch := omega) only [pk_mul, nI_add, n_lt0, n_le0, n_eq0, n_ge0, n_gt0, n_lt, n_le, n_eq, n_in, n_div, n_rem, n_rem2, n_m1, nI_clamp, bz_0, bz_1, tI_0, tI_bz, n4, n16, eq_self, Nat.reduceLT, Nat.reduceLeDiff, Nat.reduceEqDiff, Nat.reduceAdd, Nat.reduceMul, Nat.reduceDiv, Nat.reduceMod, Nat.le_refl, decide_eq_false_iff_not, Classical.not_not, true_and, and_true, false_and, and_false, not_true_eq_false, not_false_eq_true, forall_const, true_implies, false_implies, implies_true, ne_eq]
          refine ⟨fun c => ?_, fun c => ?_⟩
          · have := ih (x + 1) (some (.inl (bs1 g.1 x))) h2 (by omega) fx2 hG2
            rw [bsF, if_pos c] at this
            exact this
          · have := ih (x + 1) (some (.inl (bs1 g.1 x))) h2 (by omega) fx2 hG2
            rw [bsF, if_neg c] at this
            exact this
        refine k_hasSnapD hG'.1 ?_
        try simp (disch := omega) only [pk_mul, nI_add, n_lt0, n_le0, n_eq0, n_ge0, n_gt0, n_lt, n_le, n_eq, n_in, n_div, n_rem, n_rem2, n_m1, nI_clamp, bz_0, bz_1, tI_0, tI_bz, n4, n16, eq_self, Nat.reduceLT, Nat.reduceLeDiff, Nat.reduceEqDiff, Nat.reduceAdd, Nat.reduceMul, Nat.reduceDiv, Nat.reduceMod, Nat.le_refl, decide_eq_false_iff_not, Classical.not_not, true_and, and_true, false_and, and_false, not_true_eq_false, not_false_eq_true, forall_const, true_implies, false_implies, implies_true, ne_eq, dec_f]
        refine ⟨fun c3 => ?_, fun c3 => ?_⟩
        · have : sn g.1 x = -1 := Classical.byContradiction (fun z => c3 ⟨⟨nI_pos (by omega), nI_lt (by omega) (by omega)⟩, z⟩)
          have q := J10 h' fx hG'
          unfold bs1 at q
          rwa [if_pos this] at q
        · refine k_freedByDrop hG' (by omega) (fun h2 fx2 hG2 => ?_)
          have q := J10 h2 (fx.tr fx2) hG2
          unfold bs1 at q
          rwa [if_neg c3.2] at q
  refine ⟨fun c1 => J3 (Or.inl c1), fun c1 => ⟨fun c2 => J3 (Or.inr c2), fun c2 => ?_⟩⟩
  rw [if_neg (by rw [dec_t]; exact fun z => z.elim c1 c2)] at hp
  exact k_rfA (j := 0) hG (by decide) hp
theorem c_twins (hG : CG h g) (hp : p (aTwins g.1) h) : mI (Kd sL (d + 9)) 75 [.inr (.inr (.inr 0))] h p := by
  refine ke_X3_twins ?_
  refine EX.go (Kd_mono _ _) [false, true, false, true, false, false, false, false, false, false, false] 40 0 ?_
  dsimp only [wpc_s, wsl_t, wsl_f, gD_0, gD_s, ↓denB_n, pI_s, pG_s, pU_n, cb_X3_twins_0, cb_X3_twins_1, cb_X3_twins_2, cb_X3_twins_3, cb_X3_twins_4, cb_X3_twins_5, cb_X3_twins_6, cb_X3_twins_7, cb_X3_twins_8, cb_X3_twins_9, cb_X3_twins_10, ↓ev_aload_n_0, ↓ev_getf_3_0, ↓ev_iconst_0, ↓ev_bipush_14, ↓ev_callv_3_0_2, ↓ev_callv_3_1_2, ↓ev_callv_3_2_2, ↓ev_callv_3_3_2, ↓ev_callv_3_4_2, ↓ev_callv_2_0_2, ↓ev_callv_2_1_2, ↓ev_callv_2_2_2, ↓ev_callv_2_3_2, ↓ev_callv_2_4_2, ↓ev_lstore_n_1, ↓ev_istore_n_3, ↓ev_iconst_1, ↓ev_istore_4, ↓ev_iload_4, ↓ev_bipush_64, ↓ev_icmp_ge, ↓ev_iadd, ↓ev_istore_5, ↓ev_iload_5, ↓ev_lload_n_1, ↓ev_calls_2_0_1, ↓ev_calls_2_1_1, ↓ev_calls_2_2_1, ↓ev_calls_2_3_1, ↓ev_calls_2_4_1, ↓ev_if_eq, ↓ev_callv_3_0_1, ↓ev_callv_3_1_1, ↓ev_callv_3_2_1, ↓ev_callv_3_3_1, ↓ev_callv_3_4_1, ↓ev_callv_3_5_1, ↓ev_iinc_3_1, ↓ev_iinc_5_1, ↓ev_goto, ↓ev_iinc_4_1, ↓ev_iload_n_3, ↓ev_iret, Nat.reduceAdd]
  refine k_tablesOf (a := 0) (b := 14) hG.1 (by decide) (by decide) ?_
  refine k_dataNamedBy hG.1 ?_
  unfold aTwins at hp
  suffices H : ∀ (f c : Nat) (y : Option mV), c + f = 64 → 1 ≤ c → EX (Kd sL (d + 8)) sL md_X3_twins (pI p) 1 [some (.inr (.inr (.inr 0))), some (.inr (.inl (lOr (dseD g.1) 64))), none, some (.inl (nI (twF g.1 c))), some (.inl (nI c)), y] [] h from H 63 1 _ rfl (Nat.le_refl 1)
  intro f
  induction f with
  | zero =>
    intro c y hc h1
    refine EX.go (Kd_mono _ _) [false, true, false, true, false, false, false, false, false, false, false] 40 1 ?_
    dsimp only [wpc_s, wsl_t, wsl_f, gD_0, gD_s, ↓denB_n, pI_s, pG_s, pU_n, cb_X3_twins_0, cb_X3_twins_1, cb_X3_twins_2, cb_X3_twins_3, cb_X3_twins_4, cb_X3_twins_5, cb_X3_twins_6, cb_X3_twins_7, cb_X3_twins_8, cb_X3_twins_9, cb_X3_twins_10, ↓ev_aload_n_0, ↓ev_getf_3_0, ↓ev_iconst_0, ↓ev_bipush_14, ↓ev_callv_3_0_2, ↓ev_callv_3_1_2, ↓ev_callv_3_2_2, ↓ev_callv_3_3_2, ↓ev_callv_3_4_2, ↓ev_callv_2_0_2, ↓ev_callv_2_1_2, ↓ev_callv_2_2_2, ↓ev_callv_2_3_2, ↓ev_callv_2_4_2, ↓ev_lstore_n_1, ↓ev_istore_n_3, ↓ev_iconst_1, ↓ev_istore_4, ↓ev_iload_4, ↓ev_bipush_64, ↓ev_icmp_ge, ↓ev_iadd, ↓ev_istore_5, ↓ev_iload_5, ↓ev_lload_n_1, ↓ev_calls_2_0_1, ↓ev_calls_2_1_1, ↓ev_calls_2_2_1, ↓ev_calls_2_3_1, ↓ev_calls_2_4_1, ↓ev_if_eq, ↓ev_callv_3_0_1, ↓ev_callv_3_1_1, ↓ev_callv_3_2_1, ↓ev_callv_3_3_1, ↓ev_callv_3_4_1, ↓ev_callv_3_5_1, ↓ev_iinc_3_1, ↓ev_iinc_5_1, ↓ev_goto, ↓ev_iinc_4_1, ↓ev_iload_n_3, ↓ev_iret, Nat.reduceAdd]
    try simp (disch := omega) only [pk_mul, nI_add, n_lt0, n_le0, n_eq0, n_ge0, n_gt0, n_lt, n_le, n_eq, n_in, n_div, n_rem, n_rem2, n_m1, nI_clamp, bz_0, bz_1, tI_0, tI_bz, n4, n16, eq_self, Nat.reduceLT, Nat.reduceLeDiff, Nat.reduceEqDiff, Nat.reduceAdd, Nat.reduceMul, Nat.reduceDiv, Nat.reduceMod, Nat.le_refl, decide_eq_false_iff_not, Classical.not_not, true_and, and_true, false_and, and_false, not_true_eq_false, not_false_eq_true, forall_const, true_implies, false_implies, implies_true, ne_eq]
    rw [show c = 64 by omega]
    exact ⟨fun _ => hp, fun c => absurd (Nat.le_refl 64) c⟩
  | succ f ih =>
    intro c y hc h1
    refine EX.go (Kd_mono _ _) [false, true, false, true, false, false, false, false, false, false, false] 40 1 ?_
    dsimp only [wpc_s, wsl_t, wsl_f, gD_0, gD_s, ↓denB_n, pI_s, pG_s, pU_n, cb_X3_twins_0, cb_X3_twins_1, cb_X3_twins_2, cb_X3_twins_3, cb_X3_twins_4, cb_X3_twins_5, cb_X3_twins_6, cb_X3_twins_7, cb_X3_twins_8, cb_X3_twins_9, cb_X3_twins_10, ↓ev_aload_n_0, ↓ev_getf_3_0, ↓ev_iconst_0, ↓ev_bipush_14, ↓ev_callv_3_0_2, ↓ev_callv_3_1_2, ↓ev_callv_3_2_2, ↓ev_callv_3_3_2, ↓ev_callv_3_4_2, ↓ev_callv_2_0_2, ↓ev_callv_2_1_2, ↓ev_callv_2_2_2, ↓ev_callv_2_3_2, ↓ev_callv_2_4_2, ↓ev_lstore_n_1, ↓ev_istore_n_3, ↓ev_iconst_1, ↓ev_istore_4, ↓ev_iload_4, ↓ev_bipush_64, ↓ev_icmp_ge, ↓ev_iadd, ↓ev_istore_5, ↓ev_iload_5, ↓ev_lload_n_1, ↓ev_calls_2_0_1, ↓ev_calls_2_1_1, ↓ev_calls_2_2_1, ↓ev_calls_2_3_1, ↓ev_calls_2_4_1, ↓ev_if_eq, ↓ev_callv_3_0_1, ↓ev_callv_3_1_1, ↓ev_callv_3_2_1, ↓ev_callv_3_3_1, ↓ev_callv_3_4_1, ↓ev_callv_3_5_1, ↓ev_iinc_3_1, ↓ev_iinc_5_1, ↓ev_goto, ↓ev_iinc_4_1, ↓ev_iload_n_3, ↓ev_iret, Nat.reduceAdd]
    try simp (disch := omega) only [pk_mul, nI_add, n_lt0, n_le0, n_eq0, n_ge0, n_gt0, n_lt, n_le, n_eq, n_in, n_div, n_rem, n_rem2, n_m1, nI_clamp, bz_0, bz_1, tI_0, tI_bz, n4, n16, eq_self, Nat.reduceLT, Nat.reduceLeDiff, Nat.reduceEqDiff, Nat.reduceAdd, Nat.reduceMul, Nat.reduceDiv, Nat.reduceMod, Nat.le_refl, decide_eq_false_iff_not, Classical.not_not, true_and, and_true, false_and, and_false, not_true_eq_false, not_false_eq_true, forall_const, true_implies, false_implies, implies_true, ne_eq]
    refine ⟨fun c => absurd c (by omega), fun _ => ?_⟩
    have ihc := ih (c + 1) (some (.inl (nI 64))) (by omega) (by omega)
    rw [twF, if_pos h1] at ihc
    have hz : ∀ k, k ≤ c + 1 → twK g.1 c k = 0 := by
      intro k
      induction k with
      | zero => intro _; rfl
      | succ k ih2 =>
        intro hk
        rw [twK, ih2 (by omega), if_neg]
        rw [dec_t]
        omega
    suffices H : ∀ (e k : Nat), k + e = 64 → c + 1 ≤ k → EX (Kd sL (d + 8)) sL md_X3_twins (pI p) 3 [some (.inr (.inr (.inr 0))), some (.inr (.inl (lOr (dseD g.1) 64))), none, some (.inl (nI (twF g.1 c + twK g.1 c k))), some (.inl (nI c)), some (.inl (nI k))] [] h by
      have := H (63 - c) (c + 1) (by omega) (by omega)
      rw [hz _ (by omega)] at this
      exact this
    intro e
    induction e with
    | zero =>
      intro k hk hk1
      have : k = 64 := by omega
      subst this
      refine EX.go (Kd_mono _ _) [false, true, false, true, false, false, false, false, false, false, false] 40 3 ?_
      dsimp only [wpc_s, wsl_t, wsl_f, gD_0, gD_s, ↓denB_n, pI_s, pG_s, pU_n, cb_X3_twins_0, cb_X3_twins_1, cb_X3_twins_2, cb_X3_twins_3, cb_X3_twins_4, cb_X3_twins_5, cb_X3_twins_6, cb_X3_twins_7, cb_X3_twins_8, cb_X3_twins_9, cb_X3_twins_10, ↓ev_aload_n_0, ↓ev_getf_3_0, ↓ev_iconst_0, ↓ev_bipush_14, ↓ev_callv_3_0_2, ↓ev_callv_3_1_2, ↓ev_callv_3_2_2, ↓ev_callv_3_3_2, ↓ev_callv_3_4_2, ↓ev_callv_2_0_2, ↓ev_callv_2_1_2, ↓ev_callv_2_2_2, ↓ev_callv_2_3_2, ↓ev_callv_2_4_2, ↓ev_lstore_n_1, ↓ev_istore_n_3, ↓ev_iconst_1, ↓ev_istore_4, ↓ev_iload_4, ↓ev_bipush_64, ↓ev_icmp_ge, ↓ev_iadd, ↓ev_istore_5, ↓ev_iload_5, ↓ev_lload_n_1, ↓ev_calls_2_0_1, ↓ev_calls_2_1_1, ↓ev_calls_2_2_1, ↓ev_calls_2_3_1, ↓ev_calls_2_4_1, ↓ev_if_eq, ↓ev_callv_3_0_1, ↓ev_callv_3_1_1, ↓ev_callv_3_2_1, ↓ev_callv_3_3_1, ↓ev_callv_3_4_1, ↓ev_callv_3_5_1, ↓ev_iinc_3_1, ↓ev_iinc_5_1, ↓ev_goto, ↓ev_iinc_4_1, ↓ev_iload_n_3, ↓ev_iret, Nat.reduceAdd]
      try simp (disch := omega) only [pk_mul, nI_add, n_lt0, n_le0, n_eq0, n_ge0, n_gt0, n_lt, n_le, n_eq, n_in, n_div, n_rem, n_rem2, n_m1, nI_clamp, bz_0, bz_1, tI_0, tI_bz, n4, n16, eq_self, Nat.reduceLT, Nat.reduceLeDiff, Nat.reduceEqDiff, Nat.reduceAdd, Nat.reduceMul, Nat.reduceDiv, Nat.reduceMod, Nat.le_refl, decide_eq_false_iff_not, Classical.not_not, true_and, and_true, false_and, and_false, not_true_eq_false, not_false_eq_true, forall_const, true_implies, false_implies, implies_true, ne_eq]
      exact ihc
    | succ e ih2 =>
      intro k hk hk1
      refine EX.go (Kd_mono _ _) [false, true, false, true, false, false, false, false, true, false, false] 40 3 ?_
      dsimp only [wpc_s, wsl_t, wsl_f, gD_0, gD_s, ↓denB_n, pI_s, pG_s, pU_n, cb_X3_twins_0, cb_X3_twins_1, cb_X3_twins_2, cb_X3_twins_3, cb_X3_twins_4, cb_X3_twins_5, cb_X3_twins_6, cb_X3_twins_7, cb_X3_twins_8, cb_X3_twins_9, cb_X3_twins_10, ↓ev_aload_n_0, ↓ev_getf_3_0, ↓ev_iconst_0, ↓ev_bipush_14, ↓ev_callv_3_0_2, ↓ev_callv_3_1_2, ↓ev_callv_3_2_2, ↓ev_callv_3_3_2, ↓ev_callv_3_4_2, ↓ev_callv_2_0_2, ↓ev_callv_2_1_2, ↓ev_callv_2_2_2, ↓ev_callv_2_3_2, ↓ev_callv_2_4_2, ↓ev_lstore_n_1, ↓ev_istore_n_3, ↓ev_iconst_1, ↓ev_istore_4, ↓ev_iload_4, ↓ev_bipush_64, ↓ev_icmp_ge, ↓ev_iadd, ↓ev_istore_5, ↓ev_iload_5, ↓ev_lload_n_1, ↓ev_calls_2_0_1, ↓ev_calls_2_1_1, ↓ev_calls_2_2_1, ↓ev_calls_2_3_1, ↓ev_calls_2_4_1, ↓ev_if_eq, ↓ev_callv_3_0_1, ↓ev_callv_3_1_1, ↓ev_callv_3_2_1, ↓ev_callv_3_3_1, ↓ev_callv_3_4_1, ↓ev_callv_3_5_1, ↓ev_iinc_3_1, ↓ev_iinc_5_1, ↓ev_goto, ↓ev_iinc_4_1, ↓ev_iload_n_3, ↓ev_iret, Nat.reduceAdd]
      try simp (disch := omega) only [pk_mul, nI_add, n_lt0, n_le0, n_eq0, n_ge0, n_gt0, n_lt, n_le, n_eq, n_in, n_div, n_rem, n_rem2, n_m1, nI_clamp, bz_0, bz_1, tI_0, tI_bz, n4, n16, eq_self, Nat.reduceLT, Nat.reduceLeDiff, Nat.reduceEqDiff, Nat.reduceAdd, Nat.reduceMul, Nat.reduceDiv, Nat.reduceMod, Nat.le_refl, decide_eq_false_iff_not, Classical.not_not, true_and, and_true, false_and, and_false, not_true_eq_false, not_false_eq_true, forall_const, true_implies, false_implies, implies_true, ne_eq]
      refine ⟨fun c => absurd c (by omega), fun _ => ?_⟩
      have ih2 := ih2 (k + 1) (by omega) (by omega)
      rw [twK] at ih2
      have J8 : ¬ (dseD g.1 c = true ∧ dseD g.1 k = true ∧ alk g.1 c k) → EX (Kd sL (d + 8)) sL md_X3_twins (pI p) 8 [some (.inr (.inr (.inr 0))), some (.inr (.inl (lOr (dseD g.1) 64))), none, some (.inl (nI (twF g.1 c + twK g.1 c k))), some (.inl (nI c)), some (.inl (nI k))] [] h := by
        intro hn
        rw [if_neg (by rw [dec_t]; exact fun z => hn z.2)] at ih2
        refine EX.go (Kd_mono _ _) [false, true, false, true, false, false, false, false, false, false, false] 40 8 ?_
        dsimp only [wpc_s, wsl_t, wsl_f, gD_0, gD_s, ↓denB_n, pI_s, pG_s, pU_n, cb_X3_twins_0, cb_X3_twins_1, cb_X3_twins_2, cb_X3_twins_3, cb_X3_twins_4, cb_X3_twins_5, cb_X3_twins_6, cb_X3_twins_7, cb_X3_twins_8, cb_X3_twins_9, cb_X3_twins_10, ↓ev_aload_n_0, ↓ev_getf_3_0, ↓ev_iconst_0, ↓ev_bipush_14, ↓ev_callv_3_0_2, ↓ev_callv_3_1_2, ↓ev_callv_3_2_2, ↓ev_callv_3_3_2, ↓ev_callv_3_4_2, ↓ev_callv_2_0_2, ↓ev_callv_2_1_2, ↓ev_callv_2_2_2, ↓ev_callv_2_3_2, ↓ev_callv_2_4_2, ↓ev_lstore_n_1, ↓ev_istore_n_3, ↓ev_iconst_1, ↓ev_istore_4, ↓ev_iload_4, ↓ev_bipush_64, ↓ev_icmp_ge, ↓ev_iadd, ↓ev_istore_5, ↓ev_iload_5, ↓ev_lload_n_1, ↓ev_calls_2_0_1, ↓ev_calls_2_1_1, ↓ev_calls_2_2_1, ↓ev_calls_2_3_1, ↓ev_calls_2_4_1, ↓ev_if_eq, ↓ev_callv_3_0_1, ↓ev_callv_3_1_1, ↓ev_callv_3_2_1, ↓ev_callv_3_3_1, ↓ev_callv_3_4_1, ↓ev_callv_3_5_1, ↓ev_iinc_3_1, ↓ev_iinc_5_1, ↓ev_goto, ↓ev_iinc_4_1, ↓ev_iload_n_3, ↓ev_iret, Nat.reduceAdd]
        try simp (disch := omega) only [pk_mul, nI_add, n_lt0, n_le0, n_eq0, n_ge0, n_gt0, n_lt, n_le, n_eq, n_in, n_div, n_rem, n_rem2, n_m1, nI_clamp, bz_0, bz_1, tI_0, tI_bz, n4, n16, eq_self, Nat.reduceLT, Nat.reduceLeDiff, Nat.reduceEqDiff, Nat.reduceAdd, Nat.reduceMul, Nat.reduceDiv, Nat.reduceMod, Nat.le_refl, decide_eq_false_iff_not, Classical.not_not, true_and, and_true, false_and, and_false, not_true_eq_false, not_false_eq_true, forall_const, true_implies, false_implies, implies_true, ne_eq]
        exact ih2
      refine k_isIn (by omega) ?_
      try simp (disch := omega) only [pk_mul, nI_add, n_lt0, n_le0, n_eq0, n_ge0, n_gt0, n_lt, n_le, n_eq, n_in, n_div, n_rem, n_rem2, n_m1, nI_clamp, bz_0, bz_1, tI_0, tI_bz, n4, n16, eq_self, Nat.reduceLT, Nat.reduceLeDiff, Nat.reduceEqDiff, Nat.reduceAdd, Nat.reduceMul, Nat.reduceDiv, Nat.reduceMod, Nat.le_refl, decide_eq_false_iff_not, Classical.not_not, true_and, and_true, false_and, and_false, not_true_eq_false, not_false_eq_true, forall_const, true_implies, false_implies, implies_true, ne_eq]
      refine ⟨fun c1 => J8 (fun z => by rw [c1] at z; exact absurd z.1 (by decide)), fun c1 => ?_⟩
      refine k_isIn (by omega) ?_
      try simp (disch := omega) only [pk_mul, nI_add, n_lt0, n_le0, n_eq0, n_ge0, n_gt0, n_lt, n_le, n_eq, n_in, n_div, n_rem, n_rem2, n_m1, nI_clamp, bz_0, bz_1, tI_0, tI_bz, n4, n16, eq_self, Nat.reduceLT, Nat.reduceLeDiff, Nat.reduceEqDiff, Nat.reduceAdd, Nat.reduceMul, Nat.reduceDiv, Nat.reduceMod, Nat.le_refl, decide_eq_false_iff_not, Classical.not_not, true_and, and_true, false_and, and_false, not_true_eq_false, not_false_eq_true, forall_const, true_implies, false_implies, implies_true, ne_eq]
      refine ⟨fun c2 => J8 (fun z => by rw [c2] at z; exact absurd z.2.1 (by decide)), fun c2 => ?_⟩
      refine k_alike hG.1 (by omega) (by omega) ?_
      try simp (disch := omega) only [pk_mul, nI_add, n_lt0, n_le0, n_eq0, n_ge0, n_gt0, n_lt, n_le, n_eq, n_in, n_div, n_rem, n_rem2, n_m1, nI_clamp, bz_0, bz_1, tI_0, tI_bz, n4, n16, eq_self, Nat.reduceLT, Nat.reduceLeDiff, Nat.reduceEqDiff, Nat.reduceAdd, Nat.reduceMul, Nat.reduceDiv, Nat.reduceMod, Nat.le_refl, decide_eq_false_iff_not, Classical.not_not, true_and, and_true, false_and, and_false, not_true_eq_false, not_false_eq_true, forall_const, true_implies, false_implies, implies_true, ne_eq, dec_f]
      refine ⟨fun c3 => J8 (fun z => c3 z.2.2), fun c3 => ?_⟩
      rw [if_pos (by rw [dec_t]; exact ⟨hk1, by simpa using c1, by simpa using c2, c3⟩)] at ih2
      refine EX.go (Kd_mono _ _) [false, true, false, true, false, false, false, false, false, false, false] 40 8 ?_
      dsimp only [wpc_s, wsl_t, wsl_f, gD_0, gD_s, ↓denB_n, pI_s, pG_s, pU_n, cb_X3_twins_0, cb_X3_twins_1, cb_X3_twins_2, cb_X3_twins_3, cb_X3_twins_4, cb_X3_twins_5, cb_X3_twins_6, cb_X3_twins_7, cb_X3_twins_8, cb_X3_twins_9, cb_X3_twins_10, ↓ev_aload_n_0, ↓ev_getf_3_0, ↓ev_iconst_0, ↓ev_bipush_14, ↓ev_callv_3_0_2, ↓ev_callv_3_1_2, ↓ev_callv_3_2_2, ↓ev_callv_3_3_2, ↓ev_callv_3_4_2, ↓ev_callv_2_0_2, ↓ev_callv_2_1_2, ↓ev_callv_2_2_2, ↓ev_callv_2_3_2, ↓ev_callv_2_4_2, ↓ev_lstore_n_1, ↓ev_istore_n_3, ↓ev_iconst_1, ↓ev_istore_4, ↓ev_iload_4, ↓ev_bipush_64, ↓ev_icmp_ge, ↓ev_iadd, ↓ev_istore_5, ↓ev_iload_5, ↓ev_lload_n_1, ↓ev_calls_2_0_1, ↓ev_calls_2_1_1, ↓ev_calls_2_2_1, ↓ev_calls_2_3_1, ↓ev_calls_2_4_1, ↓ev_if_eq, ↓ev_callv_3_0_1, ↓ev_callv_3_1_1, ↓ev_callv_3_2_1, ↓ev_callv_3_3_1, ↓ev_callv_3_4_1, ↓ev_callv_3_5_1, ↓ev_iinc_3_1, ↓ev_iinc_5_1, ↓ev_goto, ↓ev_iinc_4_1, ↓ev_iload_n_3, ↓ev_iret, Nat.reduceAdd]
      try simp (disch := omega) only [pk_mul, nI_add, n_lt0, n_le0, n_eq0, n_ge0, n_gt0, n_lt, n_le, n_eq, n_in, n_div, n_rem, n_rem2, n_m1, nI_clamp, bz_0, bz_1, tI_0, tI_bz, n4, n16, eq_self, Nat.reduceLT, Nat.reduceLeDiff, Nat.reduceEqDiff, Nat.reduceAdd, Nat.reduceMul, Nat.reduceDiv, Nat.reduceMod, Nat.le_refl, decide_eq_false_iff_not, Classical.not_not, true_and, and_true, false_and, and_false, not_true_eq_false, not_false_eq_true, forall_const, true_implies, false_implies, implies_true, ne_eq]
      exact ih2
end PB4
