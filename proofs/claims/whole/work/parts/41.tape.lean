/-! ===== class Tape; texts ===== -/
abbrev isdg (N : Nat) (tp : Nat → Nat) (a : Nat) : Prop := a < N ∧ 48 ≤ tp a ∧ tp a ≤ 57
def dgF (N : Nat) (tp : Nat → Nat) : Nat → Nat → Nat → Nat × Nat
  | 0, a, v => (a, v)
  | f + 1, a, v => if isdg N tp a then dgF N tp f (a + 1) (v * 10 + tp a - 48) else (a, v)
def tkN (N : Nat) (tp : Nat → Nat) (a : Nat) : Bool × Nat × Nat := if a < N ∧ tp a = 32 then (decide (a + 1 < (dgF N tp 3 (a + 1) 0).1), dgF N tp 3 (a + 1) 0) else (false, a, 0)
def ltr (b : Nat) : Nat := if b = 119 then 0 else if b = 115 then 1 else if b = 100 then 2 else if b = 114 then 3 else if b = 103 then 4 else if b = 109 then 5 else if b = 102 then 6 else 7
def nbo (k : Nat) : Nat := if k = 0 then 3 else if k = 4 then 2 else if k = 6 then 0 else 1
def nset (f : Nat → Nat) (i v : Nat) : Nat → Nat := fun j => if j = i then v else f j
def rdN (N : Nat) (tp : Nat → Nat) : Nat → Nat → Nat → (Nat → Nat) → Bool × Nat × (Nat → Nat)
  | 0, _, a, ns => (true, a, ns)
  | c + 1, i, a, ns => if (tkN N tp a).1 = true then rdN N tp c (i + 1) (tkN N tp a).2.1 (nset ns i (tkN N tp a).2.2) else (false, (tkN N tp a).2.1, nset ns i (tkN N tp a).2.2)
def rdD (N : Nat) (tp : Nat → Nat) (a : Nat) : Bool × Nat × Nat × (Nat → Nat) :=
  if a < N ∧ ltr (tp a) < 7 then ((rdN N tp (nbo (ltr (tp a))) 0 (a + 1) (fun _ => 0)).1, (rdN N tp (nbo (ltr (tp a))) 0 (a + 1) (fun _ => 0)).2.1, ltr (tp a), (rdN N tp (nbo (ltr (tp a))) 0 (a + 1) (fun _ => 0)).2.2) else (false, a, 7, fun _ => 0)
abbrev Dd : Type := Nat × (Nat → Nat)
/-- the deeds a text tells from a on, or its fault -/
def dsF (N : Nat) (tp : Nat → Nat) : Nat → Nat → Option (List Dd) × Nat
  | 0, a => (none, a)
  | f + 1, a => if (rdD N tp a).1 = true then
      (if (rdD N tp a).2.1 < N ∧ tp (rdD N tp a).2.1 = 59 then (((dsF N tp f ((rdD N tp a).2.1 + 1)).1.map (fun L => (rdD N tp a).2.2 :: L)), (dsF N tp f ((rdD N tp a).2.1 + 1)).2)
       else if (rdD N tp a).2.1 < N then (none, (rdD N tp a).2.1) else (some [(rdD N tp a).2.2], (rdD N tp a).2.1))
    else (none, (rdD N tp a).2.1)
noncomputable def exF : List Dd → Nat → Gs → Int32 × Gs
  | [], i, g => (nI i, g)
  | x :: L, i, g => if (aDeed g x.1 (nI (x.2 0)) (nI (x.2 1)) (nI (x.2 2))).1 < 0 then (-300 - nI i, (aDeed g x.1 (nI (x.2 0)) (nI (x.2 1)) (nI (x.2 2))).2) else exF L (i + 1) (aDeed g x.1 (nI (x.2 0)) (nI (x.2 1)) (nI (x.2 2))).2
noncomputable def aRun (g : Gs) : Int32 × Gs := match (dsF g.2.2.2.2.2.1 g.2.2.2.2.2.2 120 0).1 with
  | none => (-10 - nI (dsF g.2.2.2.2.2.1 g.2.2.2.2.2.2 120 0).2, gtp g 0 g.2.2.2.2.2.2)
  | some L => ((exF L 0 g).1, gtp (exF L 0 g).2 0 g.2.2.2.2.2.2)
/-- the reader stands at a -/
def TP (h : mH) (N : Nat) (tp : Nat → Nat) (a : Nat) : Prop := h (.inr 4) 2 = nI N ∧ h (.inr 4) 3 = nI a ∧ N ≤ 120 ∧ a ≤ 1000 ∧ ∀ j, j < N → h (.inr 5) j = nI (tp j) ∧ tp j < 256
/-- only the reader's place, the kind, the numbers -/
def OP (h h' : mH) : Prop := (∀ r, r ≠ .inr 4 → r ≠ .inr 6 → h' r = h r) ∧ ∀ j, j ≠ 3 → j ≠ 4 → h' (.inr 4) j = h (.inr 4) j
theorem OP.rf {h : mH} : OP h h := ⟨fun _ _ _ => rfl, fun _ _ _ => rfl⟩
theorem OP.tr {h h1 h2 : mH} (a : OP h h1) (b : OP h1 h2) : OP h h2 := ⟨fun r p q => (b.1 r p q).trans (a.1 r p q), fun j p q => (b.2 j p q).trans (a.2 j p q)⟩
theorem OP.u3 {h : mH} {v : Int32} : OP h (hup h (.inr 4) 3 v) := ⟨fun r p _ => by funext q; exact hup_other p q, fun j p _ => hup_idx p⟩
theorem OP.u4 {h : mH} {v : Int32} : OP h (hup h (.inr 4) 4 v) := ⟨fun r p _ => by funext q; exact hup_other p q, fun j _ p => hup_idx p⟩
theorem OP.u6 {h : mH} {k : Nat} {v : Int32} : OP h (hup h (.inr 6) k v) := ⟨fun r _ p => by funext q; exact hup_other p q, fun j _ _ => hup_other (by simp) j⟩
theorem TP.op {h h' : mH} {N a a' : Nat} {tp : Nat → Nat} (hT : TP h N tp a) (ho : OP h h') (h3 : h' (.inr 4) 3 = nI a') (ha : a' ≤ 1000) : TP h' N tp a' := by
  obtain ⟨e2, e3, hN, ha1, e5⟩ := hT
  refine ⟨(ho.2 2 (by decide) (by decide)).trans e2, h3, hN, ha, fun j hj => ?_⟩
  rw [ho.1 _ (by simp) (by simp)]
  exact e5 j hj
section TAP
variable {sL d N a : Nat} {tp : Nat → Nat} {h : mH} {p : Int32 → mH → Prop}
theorem k_ahead (hT : TP h N tp a) (hp : p (if a < N then nI (tp a) else -1) h) : mI (Kd sL (d + 1)) 29 [.inr (.inr (.inr 4))] h p := by
  obtain ⟨e2, e3, hN, ha, e5⟩ := hT
  refine ke_X1_ahead ?_
  refine EX.go (Kd_mono _ _) [false, false, false, false, false, false] 40 0 ?_
  dsimp only [wpc_s, wsl_t, wsl_f, gD_0, gD_s, ↓denB_n, pI_s, pG_s, pU_n, cb_X1_ahead_0, cb_X1_ahead_1, cb_X1_ahead_2, cb_X1_ahead_3, cb_X1_ahead_4, cb_X1_ahead_5, ↓ev_aload_n_0, ↓ev_getf_1_3, ↓ev_if_lt, ↓ev_getf_1_2, ↓ev_icmp_ge, ↓ev_bipush_120, ↓ev_getf_1_0, ↓ev_iald_o5, ↓ev_iald_o6, ↓ev_iald_o20, ↓ev_goto, ↓ev_iconst_m1, ↓ev_iret, Nat.reduceAdd]
  rw [e2, e3]
  try simp (disch := omega) only [pk_mul, nI_add, n_lt0, n_le0, n_eq0, n_ge0, n_gt0, n_lt, n_le, n_eq, n_in, n_div, n_rem, n_rem2, n_m1, nI_clamp, bz_0, bz_1, tI_0, tI_bz, n4, n16, eq_self, Nat.reduceLT, Nat.reduceLeDiff, Nat.reduceEqDiff, Nat.reduceAdd, Nat.reduceMul, Nat.reduceDiv, Nat.reduceMod, Nat.le_refl, decide_eq_false_iff_not, Classical.not_not, true_and, and_true, false_and, and_false, not_true_eq_false, not_false_eq_true, forall_const, true_implies, false_implies, implies_true, ne_eq]
  refine ⟨fun c => ?_, fun c => ⟨fun c2 => absurd c2 (by omega), fun c2 => ⟨by omega, ?_⟩⟩⟩
  · rwa [if_neg (by omega)] at hp
  · rw [if_pos (by omega)] at hp
    rwa [(e5 a (by omega)).1]
theorem k_takeParting (hT : TP h N tp a) (ha : a < 1000) (h0 : ¬ (a < N ∧ tp a = 59) → p (nI 0) h) (h1 : a < N → tp a = 59 → ∀ h', OP h h' → TP h' N tp (a + 1) → h' (.inr 6) = h (.inr 6) → p (nI 1) h') : mI (Kd sL (d + 2)) 31 [.inr (.inr (.inr 4))] h p := by
  refine ke_X1_takeParting ?_
  refine EX.go (Kd_mono _ _) [false, false, false] 40 0 ?_
  dsimp only [wpc_s, wsl_t, wsl_f, gD_0, gD_s, ↓denB_n, pI_s, pG_s, pU_n, cb_X1_takeParting_0, cb_X1_takeParting_1, cb_X1_takeParting_2, ↓ev_aload_n_0, ↓ev_callv_1_0_1, ↓ev_callv_1_1_1, ↓ev_callv_1_2_1, ↓ev_callv_1_3_1, ↓ev_callv_1_4_1, ↓ev_bipush_59, ↓ev_icmp_eq, ↓ev_iconst_0, ↓ev_zret, ↓ev_dup, ↓ev_dupr, ↓ev_getf_1_3, ↓ev_iconst_1, ↓ev_iadd, ↓ev_putf_1_3, Nat.reduceAdd]
  refine k_ahead hT ?_
  have e3 := hT.2.1
  rw [e3]
  by_cases q : a < N
  · have hb := (hT.2.2.2.2 a q).2
    rw [if_pos q]
    try simp (disch := omega) only [pk_mul, nI_add, n_lt0, n_le0, n_eq0, n_ge0, n_gt0, n_lt, n_le, n_eq, n_in, n_div, n_rem, n_rem2, n_m1, nI_clamp, bz_0, bz_1, tI_0, tI_bz, n4, n16, eq_self, Nat.reduceLT, Nat.reduceLeDiff, Nat.reduceEqDiff, Nat.reduceAdd, Nat.reduceMul, Nat.reduceDiv, Nat.reduceMod, Nat.le_refl, decide_eq_false_iff_not, Classical.not_not, true_and, and_true, false_and, and_false, not_true_eq_false, not_false_eq_true, forall_const, true_implies, false_implies, implies_true, ne_eq]
    exact ⟨fun c => h1 q c _ OP.u3 (hT.op OP.u3 hup_same (by omega)) (by funext j; exact hup_other (by simp) j), fun c => h0 (fun z => c z.2)⟩
  · rw [if_neg q]
    try simp (disch := omega) only [pk_mul, nI_add, n_lt0, n_le0, n_eq0, n_ge0, n_gt0, n_lt, n_le, n_eq, n_in, n_div, n_rem, n_rem2, n_m1, nI_clamp, bz_0, bz_1, tI_0, tI_bz, n4, n16, eq_self, Nat.reduceLT, Nat.reduceLeDiff, Nat.reduceEqDiff, Nat.reduceAdd, Nat.reduceMul, Nat.reduceDiv, Nat.reduceMod, Nat.le_refl, decide_eq_false_iff_not, Classical.not_not, true_and, and_true, false_and, and_false, not_true_eq_false, not_false_eq_true, forall_const, true_implies, false_implies, implies_true, ne_eq]
    exact ⟨fun c => absurd c (by decide), fun c => h0 (fun z => q z.1)⟩
theorem dgF_le (N : Nat) (tp : Nat → Nat) : ∀ f a v, a ≤ (dgF N tp f a v).1 ∧ (dgF N tp f a v).1 ≤ a + f
  | 0, a, v => ⟨Nat.le_refl _, Nat.le_refl _⟩
  | f + 1, a, v => by
    unfold dgF
    split
    · have := dgF_le N tp f (a + 1) (v * 10 + tp a - 48)
      omega
    · exact ⟨Nat.le_refl _, Nat.le_add_right _ _⟩
theorem k_takeNumber {i : Nat} (hT : TP h N tp a) (ha : a ≤ 900) (hi : i < 3) (h6 : h (.inr 6) i = nI 0) (hp : ∀ h', OP h h' → TP h' N tp (tkN N tp a).2.1 → (∀ j, j ≠ i → h' (.inr 6) j = h (.inr 6) j) → h' (.inr 6) i = nI (tkN N tp a).2.2 → h' (.inr 4) 4 = h (.inr 4) 4 → p (tI (tkN N tp a).1) h') : mI (Kd sL (d + 2)) 33 [.inr (.inr (.inr 4)), .inl (nI i)] h p := by
  refine ke_X1_takeNumber ?_
  refine EX.go (Kd_mono _ _) [false, false, false, true, false, false, false, false, false, false, false] 40 0 ?_
  dsimp only [wpc_s, wsl_t, wsl_f, gD_0, gD_s, ↓denB_n, pI_s, pG_s, pU_n, cb_X1_takeNumber_0, cb_X1_takeNumber_1, cb_X1_takeNumber_2, cb_X1_takeNumber_3, cb_X1_takeNumber_4, cb_X1_takeNumber_5, cb_X1_takeNumber_6, cb_X1_takeNumber_7, cb_X1_takeNumber_8, cb_X1_takeNumber_9, cb_X1_takeNumber_10, ↓ev_aload_n_0, ↓ev_callv_1_0_1, ↓ev_callv_1_1_1, ↓ev_callv_1_2_1, ↓ev_callv_1_3_1, ↓ev_callv_1_4_1, ↓ev_bipush_32, ↓ev_icmp_eq, ↓ev_iconst_0, ↓ev_zret, ↓ev_dup, ↓ev_dupr, ↓ev_getf_1_3, ↓ev_iconst_1, ↓ev_iadd, ↓ev_putf_1_3, ↓ev_istore_n_2, ↓ev_iload_n_2, ↓ev_iconst_3, ↓ev_icmp_ge, ↓ev_bipush_48, ↓ev_icmp_lt, ↓ev_bipush_57, ↓ev_icmp_gt, ↓ev_getf_1_1, ↓ev_iload_n_1, ↓ev_iald_o5, ↓ev_iald_o6, ↓ev_iald_o20, ↓ev_bipush_10, ↓ev_imul, ↓ev_isub, ↓ev_iast_o5, ↓ev_iast_o6, ↓ev_iinc_2_1, ↓ev_goto, ↓ev_if_le, Nat.reduceAdd]
  refine k_ahead hT ?_
  unfold tkN at hp
  have e3 := hT.2.1
  rw [e3]
  by_cases q : a < N ∧ tp a = 32
  · obtain ⟨q1, q2⟩ := q
    rw [if_pos ⟨q1, q2⟩] at hp
    rw [if_pos q1, q2]
    try simp (disch := omega) only [pk_mul, nI_add, n_lt0, n_le0, n_eq0, n_ge0, n_gt0, n_lt, n_le, n_eq, n_in, n_div, n_rem, n_rem2, n_m1, nI_clamp, bz_0, bz_1, tI_0, tI_bz, n4, n16, eq_self, Nat.reduceLT, Nat.reduceLeDiff, Nat.reduceEqDiff, Nat.reduceAdd, Nat.reduceMul, Nat.reduceDiv, Nat.reduceMod, Nat.le_refl, decide_eq_false_iff_not, Classical.not_not, true_and, and_true, false_and, and_false, not_true_eq_false, not_false_eq_true, forall_const, true_implies, false_implies, implies_true, ne_eq]
    generalize hR : dgF N tp 3 (a + 1) 0 = R at hp
    suffices H : ∀ (f k v : Nat) (h' : mH), k + f = 3 → (k = 0 → v = 0) → v < 10 ^ k → dgF N tp f (a + 1 + k) v = R → OP h h' → TP h' N tp (a + 1 + k) → (∀ j, j ≠ i → h' (.inr 6) j = h (.inr 6) j) → h' (.inr 6) i = nI v → h' (.inr 4) 4 = h (.inr 4) 4 → EX (Kd sL (d + 1)) sL md_X1_takeNumber (pI p) 3 [some (.inr (.inr (.inr 4))), some (.inl (nI i)), some (.inl (nI k))] [] h' by
      refine H 3 0 0 _ rfl (fun _ => rfl) (by decide) hR OP.u3 (hT.op OP.u3 hup_same (by omega)) (fun j _ => hup_other (by simp) j) ?_ (hup_idx (by decide))
      rw [hup_other (by simp)]
      exact h6
    intro f
    induction f with
    | zero =>
      intro k v h' hk h0 hv hr ho hT' hj hvi h44
      have : k = 3 := by omega
      subst this
      refine EX.go (Kd_mono _ _) [false, false, false, true, false, false, false, false, false, false, false] 40 3 ?_
      dsimp only [wpc_s, wsl_t, wsl_f, gD_0, gD_s, ↓denB_n, pI_s, pG_s, pU_n, cb_X1_takeNumber_0, cb_X1_takeNumber_1, cb_X1_takeNumber_2, cb_X1_takeNumber_3, cb_X1_takeNumber_4, cb_X1_takeNumber_5, cb_X1_takeNumber_6, cb_X1_takeNumber_7, cb_X1_takeNumber_8, cb_X1_takeNumber_9, cb_X1_takeNumber_10, ↓ev_aload_n_0, ↓ev_callv_1_0_1, ↓ev_callv_1_1_1, ↓ev_callv_1_2_1, ↓ev_callv_1_3_1, ↓ev_callv_1_4_1, ↓ev_bipush_32, ↓ev_icmp_eq, ↓ev_iconst_0, ↓ev_zret, ↓ev_dup, ↓ev_dupr, ↓ev_getf_1_3, ↓ev_iconst_1, ↓ev_iadd, ↓ev_putf_1_3, ↓ev_istore_n_2, ↓ev_iload_n_2, ↓ev_iconst_3, ↓ev_icmp_ge, ↓ev_bipush_48, ↓ev_icmp_lt, ↓ev_bipush_57, ↓ev_icmp_gt, ↓ev_getf_1_1, ↓ev_iload_n_1, ↓ev_iald_o5, ↓ev_iald_o6, ↓ev_iald_o20, ↓ev_bipush_10, ↓ev_imul, ↓ev_isub, ↓ev_iast_o5, ↓ev_iast_o6, ↓ev_iinc_2_1, ↓ev_goto, ↓ev_if_le, Nat.reduceAdd]
      try simp (disch := omega) only [pk_mul, nI_add, n_lt0, n_le0, n_eq0, n_ge0, n_gt0, n_lt, n_le, n_eq, n_in, n_div, n_rem, n_rem2, n_m1, nI_clamp, bz_0, bz_1, tI_0, tI_bz, n4, n16, eq_self, Nat.reduceLT, Nat.reduceLeDiff, Nat.reduceEqDiff, Nat.reduceAdd, Nat.reduceMul, Nat.reduceDiv, Nat.reduceMod, Nat.le_refl, decide_eq_false_iff_not, Classical.not_not, true_and, and_true, false_and, and_false, not_true_eq_false, not_false_eq_true, forall_const, true_implies, false_implies, implies_true, ne_eq]
      rw [dgF] at hr
      subst hr
      have := hp h' ho hT' hj hvi h44
      rw [show decide (a + 1 < a + 1 + 3) = true by simp] at this
      exact this
    | succ f ih =>
      intro k v h' hk h0 hv hr ho hT' hj hvi h44
      refine EX.go (Kd_mono _ _) [false, false, false, true, false, false, false, true, false, false, false] 40 3 ?_
      dsimp only [wpc_s, wsl_t, wsl_f, gD_0, gD_s, ↓denB_n, pI_s, pG_s, pU_n, cb_X1_takeNumber_0, cb_X1_takeNumber_1, cb_X1_takeNumber_2, cb_X1_takeNumber_3, cb_X1_takeNumber_4, cb_X1_takeNumber_5, cb_X1_takeNumber_6, cb_X1_takeNumber_7, cb_X1_takeNumber_8, cb_X1_takeNumber_9, cb_X1_takeNumber_10, ↓ev_aload_n_0, ↓ev_callv_1_0_1, ↓ev_callv_1_1_1, ↓ev_callv_1_2_1, ↓ev_callv_1_3_1, ↓ev_callv_1_4_1, ↓ev_bipush_32, ↓ev_icmp_eq, ↓ev_iconst_0, ↓ev_zret, ↓ev_dup, ↓ev_dupr, ↓ev_getf_1_3, ↓ev_iconst_1, ↓ev_iadd, ↓ev_putf_1_3, ↓ev_istore_n_2, ↓ev_iload_n_2, ↓ev_iconst_3, ↓ev_icmp_ge, ↓ev_bipush_48, ↓ev_icmp_lt, ↓ev_bipush_57, ↓ev_icmp_gt, ↓ev_getf_1_1, ↓ev_iload_n_1, ↓ev_iald_o5, ↓ev_iald_o6, ↓ev_iald_o20, ↓ev_bipush_10, ↓ev_imul, ↓ev_isub, ↓ev_iast_o5, ↓ev_iast_o6, ↓ev_iinc_2_1, ↓ev_goto, ↓ev_if_le, Nat.reduceAdd]
      have J7 : ¬ isdg N tp (a + 1 + k) → EX (Kd sL (d + 1)) sL md_X1_takeNumber (pI p) 7 [some (.inr (.inr (.inr 4))), some (.inl (nI i)), some (.inl (nI k))] [] h' := by
        intro hn
        rw [dgF, if_neg hn] at hr
        subst hr
        have := hp h' ho hT' hj hvi h44
        refine EX.go (Kd_mono _ _) [false, false, false, true, false, false, false, false, false, false, false] 40 7 ?_
        dsimp only [wpc_s, wsl_t, wsl_f, gD_0, gD_s, ↓denB_n, pI_s, pG_s, pU_n, cb_X1_takeNumber_0, cb_X1_takeNumber_1, cb_X1_takeNumber_2, cb_X1_takeNumber_3, cb_X1_takeNumber_4, cb_X1_takeNumber_5, cb_X1_takeNumber_6, cb_X1_takeNumber_7, cb_X1_takeNumber_8, cb_X1_takeNumber_9, cb_X1_takeNumber_10, ↓ev_aload_n_0, ↓ev_callv_1_0_1, ↓ev_callv_1_1_1, ↓ev_callv_1_2_1, ↓ev_callv_1_3_1, ↓ev_callv_1_4_1, ↓ev_bipush_32, ↓ev_icmp_eq, ↓ev_iconst_0, ↓ev_zret, ↓ev_dup, ↓ev_dupr, ↓ev_getf_1_3, ↓ev_iconst_1, ↓ev_iadd, ↓ev_putf_1_3, ↓ev_istore_n_2, ↓ev_iload_n_2, ↓ev_iconst_3, ↓ev_icmp_ge, ↓ev_bipush_48, ↓ev_icmp_lt, ↓ev_bipush_57, ↓ev_icmp_gt, ↓ev_getf_1_1, ↓ev_iload_n_1, ↓ev_iald_o5, ↓ev_iald_o6, ↓ev_iald_o20, ↓ev_bipush_10, ↓ev_imul, ↓ev_isub, ↓ev_iast_o5, ↓ev_iast_o6, ↓ev_iinc_2_1, ↓ev_goto, ↓ev_if_le, Nat.reduceAdd]
        try simp (disch := omega) only [pk_mul, nI_add, n_lt0, n_le0, n_eq0, n_ge0, n_gt0, n_lt, n_le, n_eq, n_in, n_div, n_rem, n_rem2, n_m1, nI_clamp, bz_0, bz_1, tI_0, tI_bz, n4, n16, eq_self, Nat.reduceLT, Nat.reduceLeDiff, Nat.reduceEqDiff, Nat.reduceAdd, Nat.reduceMul, Nat.reduceDiv, Nat.reduceMod, Nat.le_refl, decide_eq_false_iff_not, Classical.not_not, true_and, and_true, false_and, and_false, not_true_eq_false, not_false_eq_true, forall_const, true_implies, false_implies, implies_true, ne_eq]
        refine ⟨fun c => ?_, fun c => ?_⟩
        · subst c
          rw [show decide (a + 1 < a + 1 + 0) = false by simp] at this
          exact this
        · rw [show decide (a + 1 < a + 1 + k) = true by simp; omega] at this
          exact this
      try simp (disch := omega) only [pk_mul, nI_add, n_lt0, n_le0, n_eq0, n_ge0, n_gt0, n_lt, n_le, n_eq, n_in, n_div, n_rem, n_rem2, n_m1, nI_clamp, bz_0, bz_1, tI_0, tI_bz, n4, n16, eq_self, Nat.reduceLT, Nat.reduceLeDiff, Nat.reduceEqDiff, Nat.reduceAdd, Nat.reduceMul, Nat.reduceDiv, Nat.reduceMod, Nat.le_refl, decide_eq_false_iff_not, Classical.not_not, true_and, and_true, false_and, and_false, not_true_eq_false, not_false_eq_true, forall_const, true_implies, false_implies, implies_true, ne_eq]
      refine ⟨fun c => absurd c (by omega), fun _ => ?_⟩
      refine k_ahead hT' ?_
      by_cases q3 : a + 1 + k < N
      · have hb := (hT'.2.2.2.2 _ q3).2
        rw [if_pos q3]
        try simp (disch := omega) only [pk_mul, nI_add, n_lt0, n_le0, n_eq0, n_ge0, n_gt0, n_lt, n_le, n_eq, n_in, n_div, n_rem, n_rem2, n_m1, nI_clamp, bz_0, bz_1, tI_0, tI_bz, n4, n16, eq_self, Nat.reduceLT, Nat.reduceLeDiff, Nat.reduceEqDiff, Nat.reduceAdd, Nat.reduceMul, Nat.reduceDiv, Nat.reduceMod, Nat.le_refl, decide_eq_false_iff_not, Classical.not_not, true_and, and_true, false_and, and_false, not_true_eq_false, not_false_eq_true, forall_const, true_implies, false_implies, implies_true, ne_eq]
        refine ⟨fun c => J7 (fun z => by have := z.2.1; omega), fun c => ?_⟩
        refine k_ahead hT' ?_
        rw [if_pos q3]
        try simp (disch := omega) only [pk_mul, nI_add, n_lt0, n_le0, n_eq0, n_ge0, n_gt0, n_lt, n_le, n_eq, n_in, n_div, n_rem, n_rem2, n_m1, nI_clamp, bz_0, bz_1, tI_0, tI_bz, n4, n16, eq_self, Nat.reduceLT, Nat.reduceLeDiff, Nat.reduceEqDiff, Nat.reduceAdd, Nat.reduceMul, Nat.reduceDiv, Nat.reduceMod, Nat.le_refl, decide_eq_false_iff_not, Classical.not_not, true_and, and_true, false_and, and_false, not_true_eq_false, not_false_eq_true, forall_const, true_implies, false_implies, implies_true, ne_eq]
        refine ⟨fun c2 => J7 (fun z => by have := z.2.2; omega), fun c2 => ?_⟩
        rw [hvi]
        try simp (disch := omega) only [pk_mul, nI_add, n_lt0, n_le0, n_eq0, n_ge0, n_gt0, n_lt, n_le, n_eq, n_in, n_div, n_rem, n_rem2, n_m1, nI_clamp, bz_0, bz_1, tI_0, tI_bz, n4, n16, eq_self, Nat.reduceLT, Nat.reduceLeDiff, Nat.reduceEqDiff, Nat.reduceAdd, Nat.reduceMul, Nat.reduceDiv, Nat.reduceMod, Nat.le_refl, decide_eq_false_iff_not, Classical.not_not, true_and, and_true, false_and, and_false, not_true_eq_false, not_false_eq_true, forall_const, true_implies, false_implies, implies_true, ne_eq]
        refine ⟨hi, ?_⟩
        refine k_ahead hT' ?_
        rw [if_pos q3]
        have e9 : ∀ k2 w, hup h' (.inr 6) k2 w (.inr 4) 3 = nI (a + 1 + k) := fun k2 w => by rw [hup_other (by simp)]; exact hT'.2.1
        have hvb : v < 1000 := by
          rcases (show k = 0 ∨ k = 1 ∨ k = 2 by omega) with rfl | rfl | rfl <;> omega
        try simp (disch := omega) only [pk_mul, nI_add, n_lt0, n_le0, n_eq0, n_ge0, n_gt0, n_lt, n_le, n_eq, n_in, n_div, n_rem, n_rem2, n_m1, nI_clamp, bz_0, bz_1, tI_0, tI_bz, n4, n16, eq_self, Nat.reduceLT, Nat.reduceLeDiff, Nat.reduceEqDiff, Nat.reduceAdd, Nat.reduceMul, Nat.reduceDiv, Nat.reduceMod, Nat.le_refl, decide_eq_false_iff_not, Classical.not_not, true_and, and_true, false_and, and_false, not_true_eq_false, not_false_eq_true, forall_const, true_implies, false_implies, implies_true, ne_eq, pk_mul, n_sub, e9]
        refine ⟨hi, ?_⟩
        have o2 : OP h' (hup (hup h' (.inr 6) i (nI (v * 10 + tp (a + 1 + k) - 48))) (.inr 4) 3 (nI (a + 1 + k + 1))) := OP.u6.tr OP.u3
        rw [dgF, if_pos ⟨q3, by omega, by omega⟩] at hr
        refine ih (k + 1) (v * 10 + tp (a + 1 + k) - 48) _ (by omega) (fun z => absurd z (by omega)) ?_ hr (ho.tr o2) (hT'.op o2 hup_same (by omega)) (fun j hj2 => ?_) ?_ ?_
        · rcases (show k = 0 ∨ k = 1 ∨ k = 2 by omega) with rfl | rfl | rfl
          · have := h0 rfl; omega
          · omega
          · omega
        · rw [hup_other (by simp), hup_idx hj2]
          exact hj j hj2
        · rw [hup_other (by simp), hup_same]
        · rw [hup_idx (by decide), hup_other (by simp)]
          exact h44
      · rw [if_neg q3]
        try simp (disch := omega) only [pk_mul, nI_add, n_lt0, n_le0, n_eq0, n_ge0, n_gt0, n_lt, n_le, n_eq, n_in, n_div, n_rem, n_rem2, n_m1, nI_clamp, bz_0, bz_1, tI_0, tI_bz, n4, n16, eq_self, Nat.reduceLT, Nat.reduceLeDiff, Nat.reduceEqDiff, Nat.reduceAdd, Nat.reduceMul, Nat.reduceDiv, Nat.reduceMod, Nat.le_refl, decide_eq_false_iff_not, Classical.not_not, true_and, and_true, false_and, and_false, not_true_eq_false, not_false_eq_true, forall_const, true_implies, false_implies, implies_true, ne_eq]
        exact ⟨fun c => J7 (fun z => q3 z.1), fun c => absurd (show (-1 : Int32) < nI 48 by decide) c⟩
  · rw [if_neg q] at hp
    by_cases q1 : a < N
    · rw [if_pos q1]
      have hb := (hT.2.2.2.2 a q1).2
      try simp (disch := omega) only [pk_mul, nI_add, n_lt0, n_le0, n_eq0, n_ge0, n_gt0, n_lt, n_le, n_eq, n_in, n_div, n_rem, n_rem2, n_m1, nI_clamp, bz_0, bz_1, tI_0, tI_bz, n4, n16, eq_self, Nat.reduceLT, Nat.reduceLeDiff, Nat.reduceEqDiff, Nat.reduceAdd, Nat.reduceMul, Nat.reduceDiv, Nat.reduceMod, Nat.le_refl, decide_eq_false_iff_not, Classical.not_not, true_and, and_true, false_and, and_false, not_true_eq_false, not_false_eq_true, forall_const, true_implies, false_implies, implies_true, ne_eq]
      exact ⟨fun c => absurd ⟨q1, c⟩ q, fun c => hp h OP.rf hT (fun _ _ => rfl) h6 rfl⟩
    · rw [if_neg q1]
      try simp (disch := omega) only [pk_mul, nI_add, n_lt0, n_le0, n_eq0, n_ge0, n_gt0, n_lt, n_le, n_eq, n_in, n_div, n_rem, n_rem2, n_m1, nI_clamp, bz_0, bz_1, tI_0, tI_bz, n4, n16, eq_self, Nat.reduceLT, Nat.reduceLeDiff, Nat.reduceEqDiff, Nat.reduceAdd, Nat.reduceMul, Nat.reduceDiv, Nat.reduceMod, Nat.le_refl, decide_eq_false_iff_not, Classical.not_not, true_and, and_true, false_and, and_false, not_true_eq_false, not_false_eq_true, forall_const, true_implies, false_implies, implies_true, ne_eq]
      exact ⟨fun c => absurd c (by decide), fun c => hp h OP.rf hT (fun _ _ => rfl) h6 rfl⟩
end TAP
