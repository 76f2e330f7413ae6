/-! ===== the reference: deeds, whole ===== -/
def OE (h h' : mH) : Prop := (∀ r, r ≠ .inr 7 → r ≠ .inr 8 → r ≠ .inr 12 → r ≠ .inr 13 → r ≠ .inr 14 → h' r = h r) ∧ ∀ j, j ≠ 7 → j ≠ 8 → j ≠ 9 → j ≠ 10 → h' (.inr 7) j = h (.inr 7) j
def FE (h h' : mH) : Prop := (∀ r, r ≠ .inr 7 → r ≠ .inr 8 → r ≠ .inr 9 → r ≠ .inr 12 → r ≠ .inr 13 → r ≠ .inr 14 → h' r = h r) ∧ ∀ j, j ≠ 7 → j ≠ 8 → j ≠ 9 → j ≠ 10 → h' (.inr 7) j = h (.inr 7) j
def FD (h h' : mH) : Prop := (∀ r, r ≠ .inr 7 → r ≠ .inr 8 → r ≠ .inr 9 → r ≠ .inr 11 → r ≠ .inr 12 → r ≠ .inr 13 → r ≠ .inr 14 → h' r = h r) ∧ ∀ j, j ≠ 7 → j ≠ 8 → j ≠ 9 → j ≠ 10 → j ≠ 11 → h' (.inr 7) j = h (.inr 7) j
def FR (h h' : mH) : Prop := ∀ r, (∀ n, 7 ≤ n → n ≤ 16 → r ≠ .inr n) → h' r = h r
theorem OE.fe {h h' : mH} (a : OE h h') : FE h h' := ⟨fun r p q _ s t u => a.1 r p q s t u, a.2⟩
theorem FE.fd {h h' : mH} (a : FE h h') : FD h h' := ⟨fun r p q s _ t u v => a.1 r p q s t u v, fun j p q s t _ => a.2 j p q s t⟩
theorem FD.fr {h h' : mH} (a : FD h h') : FR h h' := fun r p => a.1 r (p 7 (by decide) (by decide)) (p 8 (by decide) (by decide)) (p 9 (by decide) (by decide)) (p 11 (by decide) (by decide)) (p 12 (by decide) (by decide)) (p 13 (by decide) (by decide)) (p 14 (by decide) (by decide))
theorem FE.rf {h : mH} : FE h h := ⟨fun _ _ _ _ _ _ _ => rfl, fun _ _ _ _ _ => rfl⟩
theorem FD.rf {h : mH} : FD h h := FE.rf.fd
theorem FR.rf {h : mH} : FR h h := fun _ _ => rfl
theorem FE.tr {h h1 h2 : mH} (a : FE h h1) (b : FE h1 h2) : FE h h2 := ⟨fun r p q s t u v => (b.1 r p q s t u v).trans (a.1 r p q s t u v), fun j p q s t => (b.2 j p q s t).trans (a.2 j p q s t)⟩
theorem FD.tr {h h1 h2 : mH} (a : FD h h1) (b : FD h1 h2) : FD h h2 := ⟨fun r p q s t u v w => (b.1 r p q s t u v w).trans (a.1 r p q s t u v w), fun j p q s t u => (b.2 j p q s t u).trans (a.2 j p q s t u)⟩
theorem FR.tr {h h1 h2 : mH} (a : FR h h1) (b : FR h1 h2) : FR h h2 := fun r p => (b r p).trans (a r p)
theorem FE.p23 {h : mH} {f g : Nat → Int32} : FE h (h23 h f g) := ⟨fun r _ _ _ p q _ => a_o p q, fun j _ _ _ _ => by rw [a_o (by simp) (by simp)]⟩
theorem FE.pt {h : mH} {n : Nat} {f : Nat → Int32} (hn : n = 8 ∨ n = 9) : FE h (hpt h (.inr n) f) := ⟨fun r _ p q _ _ _ => hpt_ne (by rcases hn with rfl | rfl; exact p; exact q), fun j _ _ _ _ => by rw [hpt_ne (by rcases hn with rfl | rfl <;> simp)]⟩
/-- the reference's object is g -/
def RG (h : mH) (g : Gs) : Prop := RS h g.1 ∧ (g.2.2.1 = true → ∀ j, j < 400 → h (.inr 10) j = g.2.1 j) ∧ h (.inr 7) 3 = tI g.2.2.1 ∧ h (.inr 7) 11 = g.2.2.2.2.1 ∧ (∀ j, j < 4 → h (.inr 11) j = g.2.2.2.1 j) ∧ h (.inr 7) 15 = nI g.2.2.2.2.2.1 ∧ g.2.2.2.2.2.1 ≤ 120 ∧ ∀ j, j < g.2.2.2.2.2.1 → h (.inr 15) j = nI (g.2.2.2.2.2.2 j)
theorem RG.fe {h h' : mH} {g : Gs} {S' : St} (hG : RG h g) (ho : FE h h') (hS : RS h' S') : RG h' (gwS g S') := by
  obtain ⟨h1, h2, h3, h4, h5, h6, h7, h8⟩ := hG
  refine ⟨hS, fun z j hj => ?_, ?_, ?_, fun j hj => ?_, ?_, h7, fun j hj => ?_⟩
  · rw [ho.1 _ (by simp) (by simp) (by simp) (by simp) (by simp) (by simp)]; exact h2 z j hj
  · rw [ho.2 _ (by decide) (by decide) (by decide) (by decide)]; exact h3
  · rw [ho.2 _ (by decide) (by decide) (by decide) (by decide)]; exact h4
  · rw [ho.1 _ (by simp) (by simp) (by simp) (by simp) (by simp) (by simp)]; exact h5 j hj
  · rw [ho.2 _ (by decide) (by decide) (by decide) (by decide)]; exact h6
  · rw [ho.1 _ (by simp) (by simp) (by simp) (by simp) (by simp) (by simp)]; exact h8 j hj
theorem RG.fe0 {h h' : mH} {g : Gs} (hG : RG h g) (ho : FE h h') (hS : RS h' g.1) : RG h' g := hG.fe ho hS
theorem RG.p23 {h : mH} {g : Gs} {F G : Nat → Int32} (hG : RG h g) : RG (h23 h F G) g := hG.fe0 FE.p23 hG.1.a
def kR (kd : Nat) : Nat := if kd = 6 then 7 else if kd = 7 then 6 else kd
def bR (S : St) (kd : Nat) (b : Int32) : Int32 := if kd = 1 then nI (lms S) else b
theorem nI_LL : (-1 : Int32) = nI LL := by decide
section RPERF
variable {sL d L B M : Nat} {h : mH} {σ : Sg} {S : St} {g : Gs} {q : mH → Prop} {p : Int32 → mH → Prop}
theorem RG.rf {j : Nat} (hG : RG h g) (hj : j < 4) : RG (hup h (.inr 11) j (g.2.2.2.1 j + nI 1)) (rfs g j) := by
  obtain ⟨h1, h2, h3, h4, h5, h6, h7, h8⟩ := hG
  refine ⟨h1.ot (by simp), fun z i hi => ?_, ?_, ?_, fun i hi => ?_, ?_, h7, fun i hi => ?_⟩
  · rw [hup_other (by simp)]; exact h2 z i hi
  · rw [hup_other (by simp)]; exact h3
  · rw [hup_other (by simp)]; exact h4
  · show _ = upd g.2.2.2.1 j (g.2.2.2.1 j + nI 1) i
    by_cases z : i = j
    · subst z; rw [hup_same, pk_us]
    · rw [hup_idx z, pk_un z]; exact h5 i hi
  · rw [hup_other (by simp)]; exact h6
  · rw [hup_other (by simp)]; exact h8 i hi
theorem fd_11 {h : mH} {j : Nat} {v : Int32} : FD h (hup h (.inr 11) j v) := ⟨fun r _ _ _ p _ _ _ => by funext k; exact hup_other p k, fun j _ _ _ _ _ => hup_other (by simp) j⟩
theorem r_refuse {j : Nat} (hG : RG h g) (hj : j < 4) (hp : ∀ h', FD h h' → RG h' (rfA g j).2 → p (rfA g j).1 h') : mI (Kd sL (d + 1)) 101 [.inr (.inr (.inr 7)), .inl (rc j)] h p := by
  refine ke_X4_refuse ?_
  refine EX.go (Kd_mono _ _) [false] 40 0 ?_
  dsimp only [wpc_s, wsl_t, wsl_f, gD_0, gD_s, ↓denB_n, pI_s, pG_s, pU_n, cb_X4_refuse_0, ↓ev_aload_n_0, ↓ev_getf_4_4, ↓ev_sipush_m1001, ↓ev_iload_n_1, ↓ev_isub, ↓ev_dup2, ↓ev_iald_o8, ↓ev_iald_o9, ↓ev_iald_o10, ↓ev_iald_o11, ↓ev_iald_o12, ↓ev_iald_o13, ↓ev_iald_o14, ↓ev_iald_o15, ↓ev_iald_o16, ↓ev_iconst_1, ↓ev_iadd, ↓ev_iast_o8, ↓ev_iast_o9, ↓ev_iast_o10, ↓ev_iast_o11, ↓ev_iast_o12, ↓ev_iast_o13, ↓ev_iast_o14, ↓ev_iast_o15, ↓ev_iast_o16, ↓ev_iret, Nat.reduceAdd]
  rw [rc_idx j hj]
  have e := hG.2.2.2.2.1 j hj
  try simp (disch := omega) only [pk_mul, nI_add, n_lt0, n_le0, n_eq0, n_ge0, n_gt0, n_lt, n_le, n_eq, n_in, n_div, n_rem, n_rem2, n_m1, nI_clamp, bz_0, bz_1, tI_0, tI_bz, n4, n16, eq_self, Nat.reduceLT, Nat.reduceLeDiff, Nat.reduceEqDiff, Nat.reduceAdd, Nat.reduceMul, Nat.reduceDiv, Nat.reduceMod, Nat.le_refl, decide_eq_false_iff_not, Classical.not_not, true_and, and_true, false_and, and_false, not_true_eq_false, not_false_eq_true, forall_const, true_implies, false_implies, implies_true, ne_eq, e]
  exact ⟨hj, hj, hp _ fd_11 (hG.rf hj)⟩
theorem OD.oe {h0 h h' : mH} (a : OD h h') (b : OE h0 h) : OE h0 h' := ⟨fun r p q s t u => (a.1 r p q s t u).trans (b.1 r p q s t u), fun j p q s t => (a.2 j p s t).trans (b.2 j p q s t)⟩
theorem r_performs {kd : Nat} {a b c : Int32} (hS : RS h S) (hw : WF S) (hb : BD S B) (hB : LB B L 2000) (hL : L < 2 ^ 32) (hkd : kd < 8) (hf : fit S kd a b c) (hl : lk S = false) (hh : ¬ hin S kd a) (hp : ∀ h', OE h h' → RR h' L (act S kd a b c L (S, 0, 0)) → q h') : mU (Kd sL (d + 7)) 145 [.inr (.inr (.inr 7)), .inl (nI (kR kd)), .inl a, .inl (bR S kd b), .inl c, .inl (nI L)] h q := by
  have hC : HC B (mn S) ((S, 0, 0) : Sg) := ⟨⟨hw, hb, rfl⟩, fun _ => lk_C0 hl⟩
  have hm6 := hw.m
  refine ke_X4_performs ?_
  refine EX.go (Kd_mono _ _) [false, false, false, false, false, false, false, false, false, false] 40 0 ?_
  dsimp only [wpc_s, wsl_t, wsl_f, gD_0, gD_s, ↓denB_n, pI_s, pG_s, pU_n, cb_X4_performs_0, cb_X4_performs_1, cb_X4_performs_2, cb_X4_performs_3, cb_X4_performs_4, cb_X4_performs_5, cb_X4_performs_6, cb_X4_performs_7, cb_X4_performs_8, cb_X4_performs_9, ↓ev_aload_n_0, ↓ev_iconst_0, ↓ev_putf_4_7, ↓ev_iload_5, ↓ev_putf_4_8, ↓ev_putf_4_9, ↓ev_putf_4_10, ↓ev_iload_n_1, ↓ev_tsw_0_7, ↓ev_iload_n_2, ↓ev_iload_n_3, ↓ev_iload_4, ↓ev_callv_4_0_0, ↓ev_callv_4_1_0, ↓ev_callv_4_2_0, ↓ev_callv_4_3_0, ↓ev_callv_4_4_0, ↓ev_goto, ↓ev_callv_3_0_0, ↓ev_callv_3_1_0, ↓ev_callv_3_2_0, ↓ev_callv_3_3_0, ↓ev_callv_3_4_0, ↓ev_callv_2_0_0, ↓ev_callv_2_1_0, ↓ev_callv_2_2_0, ↓ev_callv_2_3_0, ↓ev_callv_2_4_0, ↓ev_callv_1_0_0, ↓ev_callv_1_1_0, ↓ev_callv_1_2_0, ↓ev_callv_1_3_0, ↓ev_callv_1_4_0, ↓ev_ret, Nat.reduceAdd]
  have bz0 : bz (nI 0) := Or.inl rfl
  refine ⟨bz0, bz0, ?_⟩
  have o0 : OE h (hup (hup (hup (hup h (.inr 7) 7 (nI 0)) (.inr 7) 8 (nI L)) (.inr 7) 9 (nI 0)) (.inr 7) 10 (nI 0)) := ⟨fun r p _ _ _ _ => by funext k; rw [hup_other p, hup_other p, hup_other p, hup_other p], fun j p q s t => by rw [hup_idx t, hup_idx s, hup_idx q, hup_idx p]⟩
  have t0 : RR (hup (hup (hup (hup h (.inr 7) 7 (nI 0)) (.inr 7) 8 (nI L)) (.inr 7) 9 (nI 0)) (.inr 7) 10 (nI 0)) L ((S, 0, 0) : Sg) := by
    refine ⟨((((hS.ot (by simp)).ot (by simp)).ot (by simp)).ot (by simp)), ?_, ?_, ?_, ?_, Nat.zero_le _, hL, (show 0 ≤ 2 by decide)⟩
    · rw [hup_idx (by decide), hup_idx (by decide), hup_idx (by decide), hup_same]
    · rw [hup_idx (by decide), hup_idx (by decide), hup_same]
    · rw [hup_idx (by decide), hup_same]; rfl
    · rw [hup_same]; rfl
  generalize hup (hup (hup (hup h (.inr 7) 7 (nI 0)) (.inr 7) 8 (nI L)) (.inr 7) 9 (nI 0)) (.inr 7) 10 (nI 0) = h1 at o0 t0
  have hB0 : LB B L ((S, 0, 0) : Sg).2.1 := hB.w (Or.inl (Nat.zero_le _))
  have hB2 : LB B L (((S, 0, 0) : Sg).2.1 + 2000) := hB.w (Or.inl (by show 0 + 2000 ≤ 2000; decide))
  rcases (show kd = 0 ∨ kd = 1 ∨ kd = 2 ∨ kd = 3 ∨ kd = 4 ∨ kd = 5 ∨ kd = 6 ∨ kd = 7 by omega) with rfl | rfl | rfl | rfl | rfl | rfl | rfl | rfl
  · obtain ⟨k1, g1, rfl⟩ := okL_n hf.1 hm6
    obtain ⟨k2, g2, rfl⟩ := okN_n hf.2.1 (by decide)
    unfold act at hp
    rw [nI_clamp (by omega), nI_clamp (by omega)] at hp
    simp only [kR, bR, Nat.reduceEqDiff, if_false, if_true]
    try simp (disch := omega) only [pk_mul, nI_add, n_lt0, n_le0, n_eq0, n_ge0, n_gt0, n_lt, n_le, n_eq, n_in, n_div, n_rem, n_rem2, n_m1, nI_clamp, bz_0, bz_1, tI_0, tI_bz, n4, n16, eq_self, Nat.reduceLT, Nat.reduceLeDiff, Nat.reduceEqDiff, Nat.reduceAdd, Nat.reduceMul, Nat.reduceDiv, Nat.reduceMod, Nat.le_refl, decide_eq_false_iff_not, Classical.not_not, true_and, and_true, false_and, and_false, not_true_eq_false, not_false_eq_true, forall_const, true_implies, false_implies, implies_true, ne_eq]
    exact r_writes t0 hB0 hC g1 g2 (fun h2 o2 t2 => hp h2 (o2.od.oe o0) t2)
  · obtain ⟨k1, g1, rfl⟩ := okL_n hf hm6
    obtain ⟨s1, s2, s3⟩ := lms_ok S
    have s8 : lms S < 8 := by
      rcases Nat.lt_or_ge (lms S) 8 with q | q
      · exact q
      · exact absurd (Or.inl ⟨rfl, fun j hj => s2 j (by omega)⟩) hh
    unfold act at hp
    rw [nI_clamp (by omega)] at hp
    simp only [kR, bR, Nat.reduceEqDiff, if_false, if_true]
    try simp (disch := omega) only [pk_mul, nI_add, n_lt0, n_le0, n_eq0, n_ge0, n_gt0, n_lt, n_le, n_eq, n_in, n_div, n_rem, n_rem2, n_m1, nI_clamp, bz_0, bz_1, tI_0, tI_bz, n4, n16, eq_self, Nat.reduceLT, Nat.reduceLeDiff, Nat.reduceEqDiff, Nat.reduceAdd, Nat.reduceMul, Nat.reduceDiv, Nat.reduceMod, Nat.le_refl, decide_eq_false_iff_not, Classical.not_not, true_and, and_true, false_and, and_false, not_true_eq_false, not_false_eq_true, forall_const, true_implies, false_implies, implies_true, ne_eq]
    exact r_snaps t0 hw g1 s8 (fun h2 o2 t2 => hp h2 (o2.od.oe o0) t2)
  · obtain ⟨k1, g1, rfl⟩ := okN_n hf.1 (by decide)
    have g2 := hf.2
    rw [nI_clamp (by omega)] at g2
    obtain ⟨l, hl2, el⟩ := ((wf_W0 hw).1 k1 g1).resolve_left g2
    unfold act at hp
    rw [nI_clamp (by omega)] at hp
    simp only [kR, bR, Nat.reduceEqDiff, if_false, if_true]
    try simp (disch := omega) only [pk_mul, nI_add, n_lt0, n_le0, n_eq0, n_ge0, n_gt0, n_lt, n_le, n_eq, n_in, n_div, n_rem, n_rem2, n_m1, nI_clamp, bz_0, bz_1, tI_0, tI_bz, n4, n16, eq_self, Nat.reduceLT, Nat.reduceLeDiff, Nat.reduceEqDiff, Nat.reduceAdd, Nat.reduceMul, Nat.reduceDiv, Nat.reduceMod, Nat.le_refl, decide_eq_false_iff_not, Classical.not_not, true_and, and_true, false_and, and_false, not_true_eq_false, not_false_eq_true, forall_const, true_implies, false_implies, implies_true, ne_eq]
    exact r_drops t0 hw g1 (prs_sn el (by omega)) (fun h2 o2 t2 => hp h2 (o2.oe o0) t2)
  · obtain ⟨k1, g1, rfl⟩ := okN_n hf.1 (by decide)
    have g2 := hf.2
    rw [nI_clamp (by omega)] at g2
    obtain ⟨l, hl2, el⟩ := ((wf_W0 hw).1 k1 g1).resolve_left g2
    unfold act at hp
    rw [nI_clamp (by omega), el, nI_clamp (by omega)] at hp
    simp only [kR, bR, Nat.reduceEqDiff, if_false, if_true]
    try simp (disch := omega) only [pk_mul, nI_add, n_lt0, n_le0, n_eq0, n_ge0, n_gt0, n_lt, n_le, n_eq, n_in, n_div, n_rem, n_rem2, n_m1, nI_clamp, bz_0, bz_1, tI_0, tI_bz, n4, n16, eq_self, Nat.reduceLT, Nat.reduceLeDiff, Nat.reduceEqDiff, Nat.reduceAdd, Nat.reduceMul, Nat.reduceDiv, Nat.reduceMod, Nat.le_refl, decide_eq_false_iff_not, Classical.not_not, true_and, and_true, false_and, and_false, not_true_eq_false, not_false_eq_true, forall_const, true_implies, false_implies, implies_true, ne_eq]
    exact r_reverts t0 hw g1 el hl2 (fun h2 o2 t2 => hp h2 (o2.oe o0) t2)
  · obtain ⟨k1, g1, rfl⟩ := okL_n hf.1 hm6
    obtain ⟨k2, g2, rfl⟩ := okN_n hf.2 (by decide)
    unfold act at hp
    rw [nI_clamp (by omega), nI_clamp (by omega)] at hp
    simp only [kR, bR, Nat.reduceEqDiff, if_false, if_true]
    try simp (disch := omega) only [pk_mul, nI_add, n_lt0, n_le0, n_eq0, n_ge0, n_gt0, n_lt, n_le, n_eq, n_in, n_div, n_rem, n_rem2, n_m1, nI_clamp, bz_0, bz_1, tI_0, tI_bz, n4, n16, eq_self, Nat.reduceLT, Nat.reduceLeDiff, Nat.reduceEqDiff, Nat.reduceAdd, Nat.reduceMul, Nat.reduceDiv, Nat.reduceMod, Nat.le_refl, decide_eq_false_iff_not, Classical.not_not, true_and, and_true, false_and, and_false, not_true_eq_false, not_false_eq_true, forall_const, true_implies, false_implies, implies_true, ne_eq]
    exact r_givesUp t0 hB0 hC g1 g2 (fun h2 o2 t2 => hp h2 (o2.od.oe o0) t2)
  · obtain ⟨k1, g1, rfl⟩ := okL_n hf hm6
    have g2 : ¬ bk S k1 = -1 := fun z => hh (Or.inr ⟨rfl, by rw [nI_clamp (by omega)]; exact z⟩)
    obtain ⟨bb, hb2, eb⟩ := (wf_bk hw g1).resolve_left g2
    unfold act at hp
    rw [nI_clamp (by omega), eb, nI_clamp (by omega)] at hp
    simp only [kR, bR, Nat.reduceEqDiff, if_false, if_true]
    try simp (disch := omega) only [pk_mul, nI_add, n_lt0, n_le0, n_eq0, n_ge0, n_gt0, n_lt, n_le, n_eq, n_in, n_div, n_rem, n_rem2, n_m1, nI_clamp, bz_0, bz_1, tI_0, tI_bz, n4, n16, eq_self, Nat.reduceLT, Nat.reduceLeDiff, Nat.reduceEqDiff, Nat.reduceAdd, Nat.reduceMul, Nat.reduceDiv, Nat.reduceMod, Nat.le_refl, decide_eq_false_iff_not, Classical.not_not, true_and, and_true, false_and, and_false, not_true_eq_false, not_false_eq_true, forall_const, true_implies, false_implies, implies_true, ne_eq]
    exact r_merges t0 hB2 hC g1 ((bk_in g1).symm.trans eb) hb2 (fun h2 o2 t2 => hp h2 (o2.oe o0) t2)
  · simp only [kR, bR, Nat.reduceEqDiff, if_false, if_true]
    try simp (disch := omega) only [pk_mul, nI_add, n_lt0, n_le0, n_eq0, n_ge0, n_gt0, n_lt, n_le, n_eq, n_in, n_div, n_rem, n_rem2, n_m1, nI_clamp, bz_0, bz_1, tI_0, tI_bz, n4, n16, eq_self, Nat.reduceLT, Nat.reduceLeDiff, Nat.reduceEqDiff, Nat.reduceAdd, Nat.reduceMul, Nat.reduceDiv, Nat.reduceMod, Nat.le_refl, decide_eq_false_iff_not, Classical.not_not, true_and, and_true, false_and, and_false, not_true_eq_false, not_false_eq_true, forall_const, true_implies, false_implies, implies_true, ne_eq]
    exact r_folds t0 hw (fun h2 o2 t2 => hp h2 (o2.oe o0) t2)
  · obtain ⟨k1, g1, rfl⟩ := okL_n hf.1 hm6
    have hc : ∃ sf, sf ≤ 1 ∧ c = nI sf := by
      rcases hf.2.2 with z | z
      · exact ⟨0, by decide, z⟩
      · exact ⟨1, by decide, z⟩
    obtain ⟨sf, hsf, rfl⟩ := hc
    unfold act at hp
    rw [nI_clamp (by omega), nI_clamp (by omega)] at hp
    simp only [kR, bR, Nat.reduceEqDiff, if_false, if_true]
    try simp (disch := omega) only [pk_mul, nI_add, n_lt0, n_le0, n_eq0, n_ge0, n_gt0, n_lt, n_le, n_eq, n_in, n_div, n_rem, n_rem2, n_m1, nI_clamp, bz_0, bz_1, tI_0, tI_bz, n4, n16, eq_self, Nat.reduceLT, Nat.reduceLeDiff, Nat.reduceEqDiff, Nat.reduceAdd, Nat.reduceMul, Nat.reduceDiv, Nat.reduceMod, Nat.le_refl, decide_eq_false_iff_not, Classical.not_not, true_and, and_true, false_and, and_false, not_true_eq_false, not_false_eq_true, forall_const, true_implies, false_implies, implies_true, ne_eq]
    refine r_moves t0 hB2 hC g1 ?_ hsf (fun h2 o2 t2 => hp h2 (o2.od.oe o0) t2)
    rcases hf.2.1 with z | z
    · exact Or.inl z
    · obtain ⟨k2, g2, rfl⟩ := okL_n z hm6
      exact Or.inr ⟨k2, g2, rfl⟩
/-- a deed in thought, and all as it was -/
theorem r_isTooMuch {kd : Nat} {a b c : Int32} (hS : RS h S) (hw : WF S) (hb : BD S B) (hB : B < 2 ^ 29) (hkd : kd < 8) (hf : fit S kd a b c) (hl : lk S = false) (hh : ¬ hin S kd a) (hp : ∀ h', FE h h' → RS h' S → h' (.inr 7) 7 = nI (tau S kd a b c).2.1 → p (tI (decide ((tau S kd a b c).2.2 = 2))) h') : mI (Kd sL (d + 8)) 146 [.inr (.inr (.inr 7)), .inl (nI (kR kd)), .inl a, .inl (bR S kd b), .inl c] h p := by
  refine ke_X4_isTooMuch ?_
  refine EX.go (Kd_mono _ _) [false] 40 0 ?_
  dsimp only [wpc_s, wsl_t, wsl_f, gD_0, gD_s, ↓denB_n, pI_s, pG_s, pU_n, cb_X4_isTooMuch_0, ↓ev_aload_n_0, ↓ev_getf_4_0, ↓ev_getf_4_1, ↓ev_calls_2_0_0, ↓ev_calls_2_1_0, ↓ev_calls_2_2_0, ↓ev_calls_2_3_0, ↓ev_calls_2_4_0, ↓ev_iload_n_1, ↓ev_iload_n_2, ↓ev_iload_n_3, ↓ev_iload_4, ↓ev_iconst_m1, ↓ev_callv_6_0_0, ↓ev_callv_6_1_0, ↓ev_callv_6_2_0, ↓ev_callv_6_3_0, ↓ev_callv_6_4_0, ↓ev_getf_4_10, ↓ev_zret, Nat.reduceAdd]
  refine r_copies rfl rfl (by simp) (fun f hf1 => ?_)
  rw [nI_LL]
  have o1 : FE h (hpt h (.inr 9) f) := FE.pt (Or.inr rfl)
  have hS1 : RS (hpt h (.inr 9) f) S := fun j hj => by rw [hpt_ne (by simp)]; exact hS j hj
  refine r_performs hS1 hw hb (Or.inr ⟨rfl, by decide, by omega⟩) (by decide) hkd hf hl hh (fun h2 o2 t2 => ?_)
  refine r_copies rfl rfl (by simp) (fun f2 hf2 => ?_)
  have eT : act S kd a b c LL (S, 0, 0) = tau S kd a b c := (el_act S kd a b c (S, 0, 0) (by show 0 + 900 ≤ 1000000; decide)).1
  rw [eT] at t2
  have e10 : hpt h2 (.inr 8) f2 (.inr 7) 10 = tI (decide ((tau S kd a b c).2.2 = 2)) := by rw [hpt_ne (by simp)]; exact t2.2.2.2.2.1
  rw [e10]
  refine ⟨tI_b _, hp _ (o1.tr (o2.fe.tr (FE.pt (Or.inl rfl)))) (fun j hj => ?_) ?_⟩
  · rw [hpt_self, hf2 j hj, o2.1 _ (by simp) (by simp) (by simp) (by simp) (by simp), hpt_self, hf1 j hj]
    exact hS j hj
  · rw [hpt_ne (by simp)]
    exact t2.2.1
theorem r_deed {kd : Nat} {a b c : Int32} (hG : RG h g) (hJ : JG B g) (hB : B < 2 ^ 29) (hkd : kd < 8) (hf : fit g.1 kd a b c) (hl : lk g.1 = false) (hh : ¬ hin g.1 kd a) (hp : ∀ h', FD h h' → RG h' (if (tau g.1 kd a b c).2.2 = 2 then rfA g 1 else dne g (tau2 g.1 kd a b c)).2 → p (if (tau g.1 kd a b c).2.2 = 2 then rfA g 1 else dne g (tau2 g.1 kd a b c)).1 h') : mI (Kd sL (d + 9)) 147 [.inr (.inr (.inr 7)), .inl (nI (kR kd)), .inl a, .inl (bR g.1 kd b), .inl c] h p := by
  refine ke_X4_deed ?_
  refine EX.go (Kd_mono _ _) [false, false, false, false, false, false] 40 0 ?_
  dsimp only [wpc_s, wsl_t, wsl_f, gD_0, gD_s, ↓denB_n, pI_s, pG_s, pU_n, cb_X4_deed_0, cb_X4_deed_1, cb_X4_deed_2, cb_X4_deed_3, cb_X4_deed_4, cb_X4_deed_5, ↓ev_aload_n_0, ↓ev_iload_n_1, ↓ev_iload_n_2, ↓ev_iload_n_3, ↓ev_iload_4, ↓ev_callv_5_0_1, ↓ev_callv_5_1_1, ↓ev_callv_5_2_1, ↓ev_callv_5_3_1, ↓ev_callv_5_4_1, ↓ev_if_eq, ↓ev_sipush_m1002, ↓ev_callv_2_0_1, ↓ev_callv_2_1_1, ↓ev_callv_2_2_1, ↓ev_callv_2_3_1, ↓ev_callv_2_4_1, ↓ev_iret, ↓ev_getf_4_0, ↓ev_sipush_399, ↓ev_iald_o8, ↓ev_iald_o9, ↓ev_iald_o10, ↓ev_iald_o11, ↓ev_iald_o12, ↓ev_iald_o13, ↓ev_iald_o14, ↓ev_iald_o15, ↓ev_iald_o16, ↓ev_callv_6_0_0, ↓ev_callv_6_1_0, ↓ev_callv_6_2_0, ↓ev_callv_6_3_0, ↓ev_callv_6_4_0, ↓ev_iconst_m1, ↓ev_iast_o8, ↓ev_iast_o9, ↓ev_iast_o10, ↓ev_iast_o11, ↓ev_iast_o12, ↓ev_iast_o13, ↓ev_iast_o14, ↓ev_iast_o15, ↓ev_iast_o16, ↓ev_dup, ↓ev_dupr, ↓ev_getf_4_11, ↓ev_getf_4_7, ↓ev_iadd, ↓ev_putf_4_11, ↓ev_getf_4_9, ↓ev_sipush_m1005, ↓ev_goto, Nat.reduceAdd]
  refine r_isTooMuch hG.1 hJ.1 hJ.2.1 hB hkd hf hl hh (fun h1 o1 s1 _ => ?_)
  have hG1 : RG h1 g := hG.fe0 o1 s1
  rw [tI_0]
  refine ⟨fun c0 => ?_, fun c0 => ?_⟩
  · have c1 : ¬ (tau g.1 kd a b c).2.2 = 2 := of_decide_eq_false c0
    rw [if_neg c1] at hp
    obtain ⟨L, hLB, hL32, eL, eT⟩ : ∃ L, LB B L 2000 ∧ L < 2 ^ 32 ∧ g.1 399 = nI L ∧ act g.1 kd a b c L (g.1, 0, 0) = tau2 g.1 kd a b c := by
      rcases hJ.1.te with z | ⟨t, ht, z⟩
      · refine ⟨LL, Or.inr ⟨rfl, by decide, by omega⟩, by decide, by rw [z]; exact nI_LL, ?_⟩
        unfold tau2
        rw [if_pos z]
        exact (el_act g.1 kd a b c (g.1, 0, 0) (by show 0 + 900 ≤ 1000000; decide)).1
      · refine ⟨t, Or.inl (by omega), by omega, z, ?_⟩
        unfold tau2
        rw [if_neg (by rw [z, n_m1 (by omega)]; exact id), z, nI_clamp (by omega)]
    have e9 : h1 (.inr 8) 399 = nI L := (s1 399 (by decide)).trans eL
    try simp (disch := omega) only [pk_mul, nI_add, n_lt0, n_le0, n_eq0, n_ge0, n_gt0, n_lt, n_le, n_eq, n_in, n_div, n_rem, n_rem2, n_m1, nI_clamp, bz_0, bz_1, tI_0, tI_bz, n4, n16, eq_self, Nat.reduceLT, Nat.reduceLeDiff, Nat.reduceEqDiff, Nat.reduceAdd, Nat.reduceMul, Nat.reduceDiv, Nat.reduceMod, Nat.le_refl, decide_eq_false_iff_not, Classical.not_not, true_and, and_true, false_and, and_false, not_true_eq_false, not_false_eq_true, forall_const, true_implies, false_implies, implies_true, ne_eq, e9]
    refine r_performs s1 hJ.1 hJ.2.1 hLB hL32 hkd hf hl hh (fun h2 o2 t2 => ?_)
    rw [eT] at t2
    obtain ⟨r1, r2, r3, r4, r5, r6, r7, r8⟩ := t2
    have e11 : h2 (.inr 7) 11 = g.2.2.2.2.1 := by rw [o2.2 _ (by decide) (by decide) (by decide) (by decide)]; exact hG1.2.2.2.1
    have q7 : hup h2 (.inr 8) 399 (-1) (.inr 7) = h2 (.inr 7) := by funext k; exact hup_other (by simp) k
    have q8 : ∀ v, hup (hup h2 (.inr 8) 399 (-1)) (.inr 7) 11 v (.inr 7) 9 = tI (decide ((tau2 g.1 kd a b c).2.2 = 1)) := fun v => by rw [hup_idx (by decide), q7]; exact r4
    have q9 : ∀ v, hup (hup h2 (.inr 8) 399 (-1)) (.inr 7) 11 v (.inr 7) 7 = nI (tau2 g.1 kd a b c).2.1 := fun v => by rw [hup_idx (by decide), q7]; exact r2
    try simp (disch := omega) only [pk_mul, nI_add, n_lt0, n_le0, n_eq0, n_ge0, n_gt0, n_lt, n_le, n_eq, n_in, n_div, n_rem, n_rem2, n_m1, nI_clamp, bz_0, bz_1, tI_0, tI_bz, n4, n16, eq_self, Nat.reduceLT, Nat.reduceLeDiff, Nat.reduceEqDiff, Nat.reduceAdd, Nat.reduceMul, Nat.reduceDiv, Nat.reduceMod, Nat.le_refl, decide_eq_false_iff_not, Classical.not_not, true_and, and_true, false_and, and_false, not_true_eq_false, not_false_eq_true, forall_const, true_implies, false_implies, implies_true, ne_eq, q7, q8, q9, e11, r2]
    have hfin : ∀ h', h' = hup (hup h2 (.inr 8) 399 (-1)) (.inr 7) 11 (g.2.2.2.2.1 + nI (tau2 g.1 kd a b c).2.1) → p (dne g (tau2 g.1 kd a b c)).1 h' := by
      rintro h' rfl
      refine hp _ ?_ ?_
      · refine (o1.tr o2.fe).fd.tr ⟨fun r y1 y2 _ _ _ _ _ => ?_, fun j _ _ _ _ y => ?_⟩
        · funext k
          rw [hup_other y1, hup_other y2]
        · rw [hup_idx y, q7]
      · have hG2 : RG h2 (gwS g (tau2 g.1 kd a b c).1) := hG1.fe o2.fe r1
        obtain ⟨a1, a2, a3, a4, a5, a6, a7, a8⟩ := hG2
        refine ⟨(a1.up).ot (by simp), fun z j hj => ?_, ?_, ?_, fun j hj => ?_, ?_, a7, fun j hj => ?_⟩
        · rw [hup_other (by simp), hup_other (by simp)]; exact a2 z j hj
        · rw [hup_idx (by decide), q7]; exact a3
        · rw [hup_same]; rfl
        · rw [hup_other (by simp), hup_other (by simp)]; exact a5 j hj
        · rw [hup_idx (by decide), q7]; exact a6
        · rw [hup_other (by simp), hup_other (by simp)]; exact a8 j hj
    have hfin := hfin _ rfl
    unfold dne at hfin
    dsimp only at hfin
    refine ⟨fun y => ?_, fun y => ?_⟩
    · rw [if_neg y] at hfin
      exact hfin
    · rw [if_pos y] at hfin
      exact hfin
  · have c1 : (tau g.1 kd a b c).2.2 = 2 := by simpa using c0
    rw [if_pos c1] at hp
    exact r_refuse hG1 (j := 1) (by decide) (fun h2 o2 g2 => hp h2 (o1.fd.tr o2) g2)
end RPERF
