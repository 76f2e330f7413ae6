/-! ===== the whole object: state, kept state, whether, refusals, writes ever, the tape ===== -/
abbrev Gs : Type := St × St × Bool × (Nat → Int32) × Int32 × Nat × (Nat → Nat)
def rfs (g : Gs) (j : Nat) : Gs := (g.1, g.2.1, g.2.2.1, upd g.2.2.2.1 j (g.2.2.2.1 j + nI 1), g.2.2.2.2)
def rc (j : Nat) : Int32 := if j = 0 then -1001 else if j = 1 then -1002 else if j = 2 then -1003 else -1004
def rfA (g : Gs) (j : Nat) : Int32 × Gs := (rc j, rfs g j)
def gwS (g : Gs) (S : St) : Gs := (S, g.2)
def okL (S : St) (x : Int32) : Prop := ¬ x < 0 ∧ x < nI (mn S)
def okN (x : Int32) (n : Nat) : Prop := ¬ x < 0 ∧ x < nI n
noncomputable def lk (S : St) : Bool := dec (∃ c, c < 64 ∧ lackP S c = true)
theorem lk_lOr {S : St} : (lOr (lackP S) 64 = lN 0) = (lk S = false) := by
  rw [lOr_0, lk, dec_f]
  apply propext
  constructor
  · rintro h ⟨c, hc, h2⟩
    rw [h c hc] at h2; cases h2
  · intro h c hc
    cases e : lackP S c with
    | false => rfl
    | true => exact absurd ⟨c, hc, e⟩ h
/-- the class's side of it -/
def CG (h : mH) (g : Gs) : Prop := CR h 0 g.1 ∧ (g.2.2.1 = true → CR h 1 g.2.1) ∧ h (.inr 0) 5 = tI g.2.2.1 ∧ h (.inr 0) 6 = g.2.2.2.2.1 ∧ (∀ j, j < 4 → h (.inr 1) j = g.2.2.2.1 j) ∧ h (.inr 4) 2 = nI g.2.2.2.2.2.1 ∧ g.2.2.2.2.2.1 ≤ 120 ∧ ∀ j, j < g.2.2.2.2.2.1 → h (.inr 5) j = nI (g.2.2.2.2.2.2 j)
/-- the reference's cells stay -/
def FX (h h' : mH) : Prop := ∀ n, 4 ≤ n → h' (.inr n) = h (.inr n)
def FW (h h' : mH) : Prop := ∀ n, 7 ≤ n → h' (.inr n) = h (.inr n)
theorem FX.fw {h h' : mH} (a : FX h h') : FW h h' := fun n hn => a n (by omega)
theorem FW.rf {h : mH} : FW h h := fun _ _ => rfl
theorem FW.tr {h h1 h2 : mH} (a : FW h h1) (b : FW h1 h2) : FW h h2 := fun n hn => (b n hn).trans (a n hn)
theorem FX.rf {h : mH} : FX h h := fun _ _ => rfl
theorem FX.tr {h h1 h2 : mH} (a : FX h h1) (b : FX h1 h2) : FX h h2 := fun n hn => (b n hn).trans (a n hn)
theorem Oi.fx {i : Fin 3} {h h' : mH} (a : Oi i h h') : FX h h' := fun n _ => a.oth n
theorem OV.fx {h h' : mH} (a : OV h h') : FX h h' := fun n hn => a.1 _ (fun _ e => by cases e) (fun e => by cases e; omega) (fun e => by cases e; omega)
theorem CG.oi0 {h h' : mH} {g : Gs} (hG : CG h g) (ho : Oi 0 h h') {S' : St} (hC : CR h' 0 S') : CG h' (gwS g S') := by
  obtain ⟨h1, h2, h3, h4, h5, h6, h7, h8⟩ := hG
  refine ⟨hC, fun e => (h2 e).oth ho (by decide), ?_, ?_, ?_, ?_, h7, ?_⟩
  all_goals (rw [ho.oth]; assumption)
theorem CG.oi {h h' : mH} {g : Gs} (hG : CG h g) (ho : Oi 0 h h') (hC : CR h' 0 g.1) : CG h' g := hG.oi0 ho hC
theorem CR.ov {h h' : mH} {j : Fin 3} {S : St} (hC : CR h j S) (ho : OV h h') (hj : j ≠ 2) : CR h' j S := by
  have e : ∀ q, h' (.inl (j, q)) = h (.inl (j, q)) := fun q => ho.1 _ (fun _ e => by cases e; exact hj rfl) (by simp) (by simp)
  obtain ⟨h1, h2, h3, h4, h5, h6, h7, h8⟩ := hC
  refine ⟨?_, ?_, ?_, ?_, ?_, ?_, h7, ?_⟩
  all_goals (rw [e]; assumption)
theorem OV.oth {h h' : mH} (a : OV h h') {n : Nat} (h2 : n ≠ 2) (h3 : n ≠ 3) : h' (.inr n) = h (.inr n) := a.1 _ (fun _ e => by cases e) (fun e => by cases e; exact h2 rfl) (fun e => by cases e; exact h3 rfl)
theorem CG.ov {h h' : mH} {g : Gs} (hG : CG h g) (ho : OV h h') : CG h' g := by
  obtain ⟨h1, h2, h3, h4, h5, h6, h7, h8⟩ := hG
  refine ⟨h1.ov ho (by decide), fun e => (h2 e).ov ho (by decide), ?_, ?_, ?_, ?_, h7, ?_⟩
  all_goals (rw [ho.oth (by decide) (by decide)]; assumption)
section GLO
variable {sL d : Nat} {h : mH} {g : Gs} {p : Int32 → mH → Prop}
theorem CG.rf {j : Nat} (hG : CG h g) (hj : j < 4) : CG (hup h (.inr 1) j (g.2.2.2.1 j + nI 1)) (rfs g j) := by
  obtain ⟨h1, h2, h3, h4, h5, h6, h7, h8⟩ := hG
  refine ⟨h1.up2 _ _ _, fun e => (h2 e).up2 _ _ _, ?_, ?_, fun k hk => ?_, ?_, h7, fun k hk => ?_⟩
  · rw [hup_other (by simp)]; exact h3
  · rw [hup_other (by simp)]; exact h4
  · by_cases q : k = j
    · subst q
      rw [hup_same]
      exact pk_us.symm
    · rw [hup_idx q, h5 k hk]
      exact (pk_un q).symm
  · rw [hup_other (by simp)]; exact h6
  · rw [hup_other (by simp)]; exact h8 k hk
theorem fx_up {n k : Nat} {v : Int32} (hn : n < 4) : FX h (hup h (.inr n) k v) := fun m hm => by
  funext j
  exact hup_other (fun e => by cases e; omega) j
theorem rc_idx : ∀ j, j < 4 → (-1001 : Int32) - rc j = nI j := by decide
theorem k_refuse {j : Nat} (hG : CG h g) (hj : j < 4) (hp : ∀ h', FX h h' → CG h' (rfs g j) → p (rc j) h') : mI (Kd sL (d + 1)) 88 [.inr (.inr (.inr 0)), .inl (rc j)] h p := by
  refine ke_X3_refuse ?_
  refine EX.go (Kd_mono _ _) [false, false, false, false] 40 0 ?_
  dsimp only [wpc_s, wsl_t, wsl_f, gD_0, gD_s, ↓denB_n, pI_s, pG_s, pU_n, cb_X3_refuse_0, cb_X3_refuse_1, cb_X3_refuse_2, cb_X3_refuse_3, ↓ev_sipush_m1001, ↓ev_iload_n_1, ↓ev_isub, ↓ev_istore_n_2, ↓ev_iload_n_2, ↓ev_if_lt, ↓ev_iconst_4, ↓ev_icmp_ge, ↓ev_aload_n_0, ↓ev_getf_3_4, ↓ev_dup2, ↓ev_iald_m1, ↓ev_iald_m2, ↓ev_iald_m3, ↓ev_iald_m4, ↓ev_iald_m5, ↓ev_iald_m6, ↓ev_iald_o1, ↓ev_iald_o6, ↓ev_iconst_1, ↓ev_iadd, ↓ev_iast_m1, ↓ev_iast_m2, ↓ev_iast_m3, ↓ev_iast_m4, ↓ev_iast_m5, ↓ev_iast_m6, ↓ev_iast_o1, ↓ev_iast_o6, ↓ev_iret, Nat.reduceAdd]
  rw [rc_idx j hj]
  have e := hG.2.2.2.2.1 j hj
  try simp (disch := omega) only [pk_mul, nI_add, n_lt0, n_le0, n_eq0, n_ge0, n_gt0, n_lt, n_le, n_eq, n_in, n_div, n_rem, n_rem2, n_m1, nI_clamp, bz_0, bz_1, tI_0, tI_bz, n4, n16, eq_self, Nat.reduceLT, Nat.reduceLeDiff, Nat.reduceEqDiff, Nat.reduceAdd, Nat.reduceMul, Nat.reduceDiv, Nat.reduceMod, Nat.le_refl, decide_eq_false_iff_not, Classical.not_not, true_and, and_true, false_and, and_false, not_true_eq_false, not_false_eq_true, forall_const, true_implies, false_implies, implies_true, ne_eq, e]
  exact ⟨fun c => absurd hj (by omega), fun _ => ⟨hj, hj, hp _ (fx_up (by decide)) (hG.rf hj)⟩⟩
theorem k_isPlace {x : Int32} (hp : p (tI (dec (okN x 64))) h) : mI (Kd sL (d + 1)) 96 [.inl x] h p := by
  refine ke_X3_isPlace ?_
  refine EX.go (Kd_mono _ _) [false, false, false, false, false] 40 0 ?_
  dsimp only [wpc_s, wsl_t, wsl_f, gD_0, gD_s, ↓denB_n, pI_s, pG_s, pU_n, cb_X3_isPlace_0, cb_X3_isPlace_1, cb_X3_isPlace_2, cb_X3_isPlace_3, cb_X3_isPlace_4, ↓ev_iload_n_0, ↓ev_if_lt, ↓ev_bipush_64, ↓ev_icmp_ge, ↓ev_iconst_1, ↓ev_goto, ↓ev_iconst_0, ↓ev_zret, Nat.reduceAdd]
  try simp (disch := omega) only [pk_mul, nI_add, n_lt0, n_le0, n_eq0, n_ge0, n_gt0, n_lt, n_le, n_eq, n_in, n_div, n_rem, n_rem2, n_m1, nI_clamp, bz_0, bz_1, tI_0, tI_bz, n4, n16, eq_self, Nat.reduceLT, Nat.reduceLeDiff, Nat.reduceEqDiff, Nat.reduceAdd, Nat.reduceMul, Nat.reduceDiv, Nat.reduceMod, Nat.le_refl, decide_eq_false_iff_not, Classical.not_not, true_and, and_true, false_and, and_false, not_true_eq_false, not_false_eq_true, forall_const, true_implies, false_implies, implies_true, ne_eq]
  exact ⟨fun c => pdf hp (fun z => z.1 c), fun c => ⟨fun c2 => pdf hp (fun z => Int32.not_lt.mpr c2 z.2), fun c2 => pdt hp ⟨c, Int32.not_le.mp c2⟩⟩⟩
theorem k_hasLayerD {x : Int32} {i : Fin 3} {S : St} (hC : CR h i S) (hp : p (tI (dec (okL S x))) h) : mI (Kd sL (d + 1)) 1 [.inr (.inr (.inl (i, 0))), .inl x] h p := k_hasLayer hC (by rw [dec_dec]; exact hp)
/-- which numbers a deed takes -/
def fit (S : St) (kd : Nat) (a b c : Int32) : Prop := match kd with
  | 0 => okL S a ∧ okN b 64 ∧ okN c 256
  | 1 => okL S a
  | 2 => okN a 8 ∧ ¬ sn S a.toNatClampNeg = -1
  | 3 => okN a 8 ∧ ¬ sn S a.toNatClampNeg = -1
  | 4 => okL S a ∧ okN b 16
  | 5 => okL S a
  | 7 => okL S a ∧ (b = -1 ∨ okL S b) ∧ (c = 0 ∨ c = 1)
  | _ => True
theorem k_hasSnapD {x : Int32} {i : Fin 3} {S : St} (hC : CR h i S) (hp : p (tI (dec (okN x 8 ∧ ¬ sn S x.toNatClampNeg = -1))) h) : mI (Kd sL (d + 1)) 3 [.inr (.inr (.inl (i, 0))), .inl x] h p := k_hasSnapshot hC (by
  rw [dec_dec]
  rw [dec_iff (b := okN x 8 ∧ ¬ sn S x.toNatClampNeg = -1)]
  · exact hp
  · unfold okN; exact ⟨fun z => ⟨⟨z.1, z.2.1⟩, z.2.2⟩, fun z => ⟨z.1.1, z.1.2, z.2⟩⟩)
theorem k_fits {kd : Nat} {a b c : Int32} (hC : CR h 0 g.1) (hkd : kd < 8) (hp : p (tI (dec (fit g.1 kd a b c))) h) : mI (Kd sL (d + 3)) 91 [.inr (.inr (.inr 0)), .inl (nI kd), .inl a, .inl b, .inl c] h p := by
  refine ke_X3_fits ?_
  refine EX.go (Kd_mono _ _) [false, false, false, false, false, false, false, false, false, false, false, false, false, false, false, false, false, false, false, false, false, false, false, false] 40 0 ?_
  dsimp only [wpc_s, wsl_t, wsl_f, gD_0, gD_s, ↓denB_n, pI_s, pG_s, pU_n, cb_X3_fits_0, cb_X3_fits_1, cb_X3_fits_2, cb_X3_fits_3, cb_X3_fits_4, cb_X3_fits_5, cb_X3_fits_6, cb_X3_fits_7, cb_X3_fits_8, cb_X3_fits_9, cb_X3_fits_10, cb_X3_fits_11, cb_X3_fits_12, cb_X3_fits_13, cb_X3_fits_14, cb_X3_fits_15, cb_X3_fits_16, cb_X3_fits_17, cb_X3_fits_18, cb_X3_fits_19, cb_X3_fits_20, cb_X3_fits_21, cb_X3_fits_22, cb_X3_fits_23, ↓ev_iload_n_1, ↓ev_tsw_0_8, ↓ev_aload_n_0, ↓ev_getf_3_0, ↓ev_iload_n_2, ↓ev_callv_2_0_1, ↓ev_callv_2_1_1, ↓ev_callv_2_2_1, ↓ev_callv_2_3_1, ↓ev_callv_2_4_1, ↓ev_if_eq, ↓ev_iload_n_3, ↓ev_calls_1_0_1, ↓ev_calls_1_1_1, ↓ev_calls_1_2_1, ↓ev_calls_1_3_1, ↓ev_calls_1_4_1, ↓ev_iload_4, ↓ev_if_lt, ↓ev_sipush_255, ↓ev_icmp_gt, ↓ev_iconst_1, ↓ev_goto, ↓ev_iconst_0, ↓ev_zret, ↓ev_bipush_16, ↓ev_icmp_ge, ↓ev_icmp_ne, Nat.reduceAdd]
  rcases (show kd = 0 ∨ kd = 1 ∨ kd = 2 ∨ kd = 3 ∨ kd = 4 ∨ kd = 5 ∨ kd = 6 ∨ kd = 7 by omega) with rfl | rfl | rfl | rfl | rfl | rfl | rfl | rfl
  · try simp (disch := omega) only [pk_mul, nI_add, n_lt0, n_le0, n_eq0, n_ge0, n_gt0, n_lt, n_le, n_eq, n_in, n_div, n_rem, n_rem2, n_m1, nI_clamp, bz_0, bz_1, tI_0, tI_bz, n4, n16, eq_self, Nat.reduceLT, Nat.reduceLeDiff, Nat.reduceEqDiff, Nat.reduceAdd, Nat.reduceMul, Nat.reduceDiv, Nat.reduceMod, Nat.le_refl, decide_eq_false_iff_not, Classical.not_not, true_and, and_true, false_and, and_false, not_true_eq_false, not_false_eq_true, forall_const, true_implies, false_implies, implies_true, ne_eq]
    refine k_hasLayerD hC ?_
    try simp (disch := omega) only [pk_mul, nI_add, n_lt0, n_le0, n_eq0, n_ge0, n_gt0, n_lt, n_le, n_eq, n_in, n_div, n_rem, n_rem2, n_m1, nI_clamp, bz_0, bz_1, tI_0, tI_bz, n4, n16, eq_self, Nat.reduceLT, Nat.reduceLeDiff, Nat.reduceEqDiff, Nat.reduceAdd, Nat.reduceMul, Nat.reduceDiv, Nat.reduceMod, Nat.le_refl, decide_eq_false_iff_not, Classical.not_not, true_and, and_true, false_and, and_false, not_true_eq_false, not_false_eq_true, forall_const, true_implies, false_implies, implies_true, ne_eq, dec_f]
    refine ⟨fun c1 => pdf hp (fun z => c1 z.1), fun c1 => ?_⟩
    refine k_isPlace ?_
    try simp (disch := omega) only [pk_mul, nI_add, n_lt0, n_le0, n_eq0, n_ge0, n_gt0, n_lt, n_le, n_eq, n_in, n_div, n_rem, n_rem2, n_m1, nI_clamp, bz_0, bz_1, tI_0, tI_bz, n4, n16, eq_self, Nat.reduceLT, Nat.reduceLeDiff, Nat.reduceEqDiff, Nat.reduceAdd, Nat.reduceMul, Nat.reduceDiv, Nat.reduceMod, Nat.le_refl, decide_eq_false_iff_not, Classical.not_not, true_and, and_true, false_and, and_false, not_true_eq_false, not_false_eq_true, forall_const, true_implies, false_implies, implies_true, ne_eq, dec_f]
    refine ⟨fun c2 => pdf hp (fun z => c2 z.2.1), fun c2 => ⟨fun c3 => pdf hp (fun z => z.2.2.1 c3), fun c3 => ⟨fun c4 => pdf hp (fun z => ?_), fun c4 => pdt hp ⟨c1, c2, c3, ?_⟩⟩⟩⟩
    · have := z.2.2.2
      obtain ⟨k, hk, rfl⟩ := (i_cases c).resolve_left c3
      try simp (disch := omega) only [pk_mul, nI_add, n_lt0, n_le0, n_eq0, n_ge0, n_gt0, n_lt, n_le, n_eq, n_in, n_div, n_rem, n_rem2, n_m1, nI_clamp, bz_0, bz_1, tI_0, tI_bz, n4, n16, eq_self, Nat.reduceLT, Nat.reduceLeDiff, Nat.reduceEqDiff, Nat.reduceAdd, Nat.reduceMul, Nat.reduceDiv, Nat.reduceMod, Nat.le_refl, decide_eq_false_iff_not, Classical.not_not, true_and, and_true, false_and, and_false, not_true_eq_false, not_false_eq_true, forall_const, true_implies, false_implies, implies_true, ne_eq] at c4 this
      omega
    · obtain ⟨k, hk, rfl⟩ := (i_cases c).resolve_left c3
      try simp (disch := omega) only [pk_mul, nI_add, n_lt0, n_le0, n_eq0, n_ge0, n_gt0, n_lt, n_le, n_eq, n_in, n_div, n_rem, n_rem2, n_m1, nI_clamp, bz_0, bz_1, tI_0, tI_bz, n4, n16, eq_self, Nat.reduceLT, Nat.reduceLeDiff, Nat.reduceEqDiff, Nat.reduceAdd, Nat.reduceMul, Nat.reduceDiv, Nat.reduceMod, Nat.le_refl, decide_eq_false_iff_not, Classical.not_not, true_and, and_true, false_and, and_false, not_true_eq_false, not_false_eq_true, forall_const, true_implies, false_implies, implies_true, ne_eq] at c4 ⊢
      omega
  · try simp (disch := omega) only [pk_mul, nI_add, n_lt0, n_le0, n_eq0, n_ge0, n_gt0, n_lt, n_le, n_eq, n_in, n_div, n_rem, n_rem2, n_m1, nI_clamp, bz_0, bz_1, tI_0, tI_bz, n4, n16, eq_self, Nat.reduceLT, Nat.reduceLeDiff, Nat.reduceEqDiff, Nat.reduceAdd, Nat.reduceMul, Nat.reduceDiv, Nat.reduceMod, Nat.le_refl, decide_eq_false_iff_not, Classical.not_not, true_and, and_true, false_and, and_false, not_true_eq_false, not_false_eq_true, forall_const, true_implies, false_implies, implies_true, ne_eq]
    refine k_hasLayerD hC ?_
    exact ⟨by rw [tI_bz]; trivial, hp⟩
  · try simp (disch := omega) only [pk_mul, nI_add, n_lt0, n_le0, n_eq0, n_ge0, n_gt0, n_lt, n_le, n_eq, n_in, n_div, n_rem, n_rem2, n_m1, nI_clamp, bz_0, bz_1, tI_0, tI_bz, n4, n16, eq_self, Nat.reduceLT, Nat.reduceLeDiff, Nat.reduceEqDiff, Nat.reduceAdd, Nat.reduceMul, Nat.reduceDiv, Nat.reduceMod, Nat.le_refl, decide_eq_false_iff_not, Classical.not_not, true_and, and_true, false_and, and_false, not_true_eq_false, not_false_eq_true, forall_const, true_implies, false_implies, implies_true, ne_eq]
    refine k_hasSnapD hC ?_
    exact ⟨by rw [tI_bz]; trivial, hp⟩
  · try simp (disch := omega) only [pk_mul, nI_add, n_lt0, n_le0, n_eq0, n_ge0, n_gt0, n_lt, n_le, n_eq, n_in, n_div, n_rem, n_rem2, n_m1, nI_clamp, bz_0, bz_1, tI_0, tI_bz, n4, n16, eq_self, Nat.reduceLT, Nat.reduceLeDiff, Nat.reduceEqDiff, Nat.reduceAdd, Nat.reduceMul, Nat.reduceDiv, Nat.reduceMod, Nat.le_refl, decide_eq_false_iff_not, Classical.not_not, true_and, and_true, false_and, and_false, not_true_eq_false, not_false_eq_true, forall_const, true_implies, false_implies, implies_true, ne_eq]
    refine k_hasSnapD hC ?_
    exact ⟨by rw [tI_bz]; trivial, hp⟩
  · try simp (disch := omega) only [pk_mul, nI_add, n_lt0, n_le0, n_eq0, n_ge0, n_gt0, n_lt, n_le, n_eq, n_in, n_div, n_rem, n_rem2, n_m1, nI_clamp, bz_0, bz_1, tI_0, tI_bz, n4, n16, eq_self, Nat.reduceLT, Nat.reduceLeDiff, Nat.reduceEqDiff, Nat.reduceAdd, Nat.reduceMul, Nat.reduceDiv, Nat.reduceMod, Nat.le_refl, decide_eq_false_iff_not, Classical.not_not, true_and, and_true, false_and, and_false, not_true_eq_false, not_false_eq_true, forall_const, true_implies, false_implies, implies_true, ne_eq]
    refine k_hasLayerD hC ?_
    try simp (disch := omega) only [pk_mul, nI_add, n_lt0, n_le0, n_eq0, n_ge0, n_gt0, n_lt, n_le, n_eq, n_in, n_div, n_rem, n_rem2, n_m1, nI_clamp, bz_0, bz_1, tI_0, tI_bz, n4, n16, eq_self, Nat.reduceLT, Nat.reduceLeDiff, Nat.reduceEqDiff, Nat.reduceAdd, Nat.reduceMul, Nat.reduceDiv, Nat.reduceMod, Nat.le_refl, decide_eq_false_iff_not, Classical.not_not, true_and, and_true, false_and, and_false, not_true_eq_false, not_false_eq_true, forall_const, true_implies, false_implies, implies_true, ne_eq, dec_f]
    exact ⟨fun c1 => pdf hp (fun z => c1 z.1), fun c1 => ⟨fun c3 => pdf hp (fun z => z.2.1 c3), fun c3 => ⟨fun c4 => pdf hp (fun z => Int32.not_lt.mpr c4 z.2.2), fun c4 => pdt hp ⟨c1, c3, Int32.not_le.mp c4⟩⟩⟩⟩
  · try simp (disch := omega) only [pk_mul, nI_add, n_lt0, n_le0, n_eq0, n_ge0, n_gt0, n_lt, n_le, n_eq, n_in, n_div, n_rem, n_rem2, n_m1, nI_clamp, bz_0, bz_1, tI_0, tI_bz, n4, n16, eq_self, Nat.reduceLT, Nat.reduceLeDiff, Nat.reduceEqDiff, Nat.reduceAdd, Nat.reduceMul, Nat.reduceDiv, Nat.reduceMod, Nat.le_refl, decide_eq_false_iff_not, Classical.not_not, true_and, and_true, false_and, and_false, not_true_eq_false, not_false_eq_true, forall_const, true_implies, false_implies, implies_true, ne_eq]
    refine k_hasLayerD hC ?_
    exact ⟨by rw [tI_bz]; trivial, hp⟩
  · try simp (disch := omega) only [pk_mul, nI_add, n_lt0, n_le0, n_eq0, n_ge0, n_gt0, n_lt, n_le, n_eq, n_in, n_div, n_rem, n_rem2, n_m1, nI_clamp, bz_0, bz_1, tI_0, tI_bz, n4, n16, eq_self, Nat.reduceLT, Nat.reduceLeDiff, Nat.reduceEqDiff, Nat.reduceAdd, Nat.reduceMul, Nat.reduceDiv, Nat.reduceMod, Nat.le_refl, decide_eq_false_iff_not, Classical.not_not, true_and, and_true, false_and, and_false, not_true_eq_false, not_false_eq_true, forall_const, true_implies, false_implies, implies_true, ne_eq]
    exact pdt hp trivial
  · try simp (disch := omega) only [pk_mul, nI_add, n_lt0, n_le0, n_eq0, n_ge0, n_gt0, n_lt, n_le, n_eq, n_in, n_div, n_rem, n_rem2, n_m1, nI_clamp, bz_0, bz_1, tI_0, tI_bz, n4, n16, eq_self, Nat.reduceLT, Nat.reduceLeDiff, Nat.reduceEqDiff, Nat.reduceAdd, Nat.reduceMul, Nat.reduceDiv, Nat.reduceMod, Nat.le_refl, decide_eq_false_iff_not, Classical.not_not, true_and, and_true, false_and, and_false, not_true_eq_false, not_false_eq_true, forall_const, true_implies, false_implies, implies_true, ne_eq]
    refine k_hasLayerD hC ?_
    try simp (disch := omega) only [pk_mul, nI_add, n_lt0, n_le0, n_eq0, n_ge0, n_gt0, n_lt, n_le, n_eq, n_in, n_div, n_rem, n_rem2, n_m1, nI_clamp, bz_0, bz_1, tI_0, tI_bz, n4, n16, eq_self, Nat.reduceLT, Nat.reduceLeDiff, Nat.reduceEqDiff, Nat.reduceAdd, Nat.reduceMul, Nat.reduceDiv, Nat.reduceMod, Nat.le_refl, decide_eq_false_iff_not, Classical.not_not, true_and, and_true, false_and, and_false, not_true_eq_false, not_false_eq_true, forall_const, true_implies, false_implies, implies_true, ne_eq, dec_f]
    refine ⟨fun c1 => pdf hp (fun z => c1 z.1), fun c1 => ?_⟩
    refine k_hasBacking hC ?_
    try simp (disch := omega) only [pk_mul, nI_add, n_lt0, n_le0, n_eq0, n_ge0, n_gt0, n_lt, n_le, n_eq, n_in, n_div, n_rem, n_rem2, n_m1, nI_clamp, bz_0, bz_1, tI_0, tI_bz, n4, n16, eq_self, Nat.reduceLT, Nat.reduceLeDiff, Nat.reduceEqDiff, Nat.reduceAdd, Nat.reduceMul, Nat.reduceDiv, Nat.reduceMod, Nat.le_refl, decide_eq_false_iff_not, Classical.not_not, true_and, and_true, false_and, and_false, not_true_eq_false, not_false_eq_true, forall_const, true_implies, false_implies, implies_true, ne_eq]
    refine ⟨fun c2 => pdf hp (fun z => c2 z.2.1), fun c2 => ⟨fun c3 => pdt hp ⟨c1, c2, Or.inl c3⟩, fun c3 => ⟨fun c4 => pdf hp (fun z => z.2.2.elim c3 c4), fun c4 => pdt hp ⟨c1, c2, Or.inr c4⟩⟩⟩⟩
/-- what hinders beside a lack -/
def hin (S : St) (kd : Nat) (a : Int32) : Prop := (kd = 1 ∧ ∀ s, s < 8 → ¬ sn S s = -1) ∨ (kd = 5 ∧ bk S a.toNatClampNeg = -1)
theorem k_isHindered {kd : Nat} {a b c : Int32} (hC : CR h 0 g.1) (hkd : kd < 8) (hf : fit g.1 kd a b c) (hp : p (tI (dec (hin g.1 kd a))) h) : mI (Kd sL (d + 2)) 92 [.inr (.inr (.inr 0)), .inl (nI kd), .inl a] h p := by
  refine ke_X3_isHindered ?_
  refine EX.go (Kd_mono _ _) [false, false, false, false, false, false, false, false, false, false, false] 40 0 ?_
  dsimp only [wpc_s, wsl_t, wsl_f, gD_0, gD_s, ↓denB_n, pI_s, pG_s, pU_n, cb_X3_isHindered_0, cb_X3_isHindered_1, cb_X3_isHindered_2, cb_X3_isHindered_3, cb_X3_isHindered_4, cb_X3_isHindered_5, cb_X3_isHindered_6, cb_X3_isHindered_7, cb_X3_isHindered_8, cb_X3_isHindered_9, cb_X3_isHindered_10, ↓ev_iload_n_1, ↓ev_iconst_1, ↓ev_icmp_ne, ↓ev_aload_n_0, ↓ev_getf_3_0, ↓ev_callv_1_0_1, ↓ev_callv_1_1_1, ↓ev_callv_1_2_1, ↓ev_callv_1_3_1, ↓ev_callv_1_4_1, ↓ev_iconst_m1, ↓ev_goto, ↓ev_iconst_0, ↓ev_zret, ↓ev_iconst_5, ↓ev_iload_n_2, ↓ev_callv_2_0_1, ↓ev_callv_2_1_1, ↓ev_callv_2_2_1, ↓ev_callv_2_3_1, ↓ev_callv_2_4_1, ↓ev_if_eq, ↓ev_getf_0_3, ↓ev_iald_m1, ↓ev_iald_m2, ↓ev_iald_m3, ↓ev_iald_m4, ↓ev_iald_m5, ↓ev_iald_m6, ↓ev_iald_o1, ↓ev_iald_o6, Nat.reduceAdd]
  have hm6 := hC.2.2.2.2.2.2.1
  try simp (disch := omega) only [pk_mul, nI_add, n_lt0, n_le0, n_eq0, n_ge0, n_gt0, n_lt, n_le, n_eq, n_in, n_div, n_rem, n_rem2, n_m1, nI_clamp, bz_0, bz_1, tI_0, tI_bz, n4, n16, eq_self, Nat.reduceLT, Nat.reduceLeDiff, Nat.reduceEqDiff, Nat.reduceAdd, Nat.reduceMul, Nat.reduceDiv, Nat.reduceMod, Nat.le_refl, decide_eq_false_iff_not, Classical.not_not, true_and, and_true, false_and, and_false, not_true_eq_false, not_false_eq_true, forall_const, true_implies, false_implies, implies_true, ne_eq]
  refine ⟨fun c1 => ⟨fun c2 => pdf hp (fun z => z.elim (fun z => c1 z.1) (fun z => c2 z.1)), fun c2 => ?_⟩, fun c1 => ?_⟩
  · subst c2
    obtain ⟨hn, hl⟩ : okL g.1 a := hf
    obtain ⟨k, hk, rfl⟩ := (i_cases a).resolve_left hn
    rw [n_lt hk (by omega)] at hl
    refine k_hasLayer hC ?_
    have e := hC.2.2.2.1 k (by omega)
    try simp (disch := omega) only [pk_mul, nI_add, n_lt0, n_le0, n_eq0, n_ge0, n_gt0, n_lt, n_le, n_eq, n_in, n_div, n_rem, n_rem2, n_m1, nI_clamp, bz_0, bz_1, tI_0, tI_bz, n4, n16, eq_self, Nat.reduceLT, Nat.reduceLeDiff, Nat.reduceEqDiff, Nat.reduceAdd, Nat.reduceMul, Nat.reduceDiv, Nat.reduceMod, Nat.le_refl, decide_eq_false_iff_not, Classical.not_not, true_and, and_true, false_and, and_false, not_true_eq_false, not_false_eq_true, forall_const, true_implies, false_implies, implies_true, ne_eq, e]
    have hp2 : hin g.1 5 (nI k) ↔ bk g.1 k = -1 := by
      unfold hin
      rw [nI_clamp hk]
      exact ⟨fun z => z.elim (fun z => absurd z.1 (by decide)) (fun z => z.2), fun z => Or.inr ⟨rfl, z⟩⟩
    refine ⟨fun c3 => absurd hl c3, fun _ => ⟨by omega, fun c3 => pdf hp (fun z => c3 (hp2.mp z)), fun c3 => pdt hp (hp2.mpr c3)⟩⟩
  · subst c1
    refine k_leastMissing hC (fun s a1 a2 a3 => ?_)
    by_cases q : s = 8
    · rw [if_pos q]
      exact ⟨fun c3 => absurd rfl c3, fun _ => pdt hp (Or.inl ⟨rfl, fun j hj => a2 j (by omega)⟩)⟩
    · rw [if_neg q, n_m1 (by omega)]
      exact ⟨fun _ => pdf hp (fun z => z.elim (fun z => z.2 s (by omega) (a3 (by omega))) (fun z => absurd z.1 (by decide))), fun c3 => c3.elim⟩
end GLO
