/-! ===== class Image: sets and counts ===== -/
/-- an array put in another's place -/
def hpt (h : mH) (r : mRef) (f : Nat → Int32) : mH := fun r' => if r' = r then f else h r'
theorem hpt_self {h : mH} {r : mRef} {f : Nat → Int32} : hpt h r f r = f := by simp [hpt]
theorem hpt_ne {h : mH} {r r' : mRef} {f : Nat → Int32} (hn : r' ≠ r) : hpt h r f r' = h r' := by simp [hpt, hn]
theorem hpt_eta {h : mH} {r : mRef} : hpt h r (h r) = h := by
  funext r'
  by_cases e : r' = r
  · subst e; simp [hpt]
  · simp [hpt, e]
theorem hup_hpt {h : mH} {r : mRef} {f : Nat → Int32} {k : Nat} {v : Int32} : hup (hpt h r f) r k v = hpt h r (upd f k v) := by
  funext r' k'
  by_cases e : r' = r
  · subst e
    by_cases e2 : k' = k
    · simp [hup, hpt, upd, e2]
    · simp [hup, hpt, upd, e2]
  · simp [hup, hpt, e]
theorem hup_pt {h : mH} {r : mRef} {k : Nat} {v : Int32} : hup h r k v = hpt h r (upd (h r) k v) := by
  rw [← hup_hpt, hpt_eta]
theorem hpt_hpt {h : mH} {r : mRef} {f g : Nat → Int32} : hpt (hpt h r f) r g = hpt h r g := by
  funext r'
  by_cases e : r' = r
  · simp [hpt, e]
  · simp [hpt, e]
/-- nothing but image i differs -/
def Oi (i : Fin 3) (h h' : mH) : Prop := ∀ r, (∀ p, r ≠ .inl (i, p)) → h' r = h r
theorem Oi.rf {i : Fin 3} {h : mH} : Oi i h h := fun _ _ => rfl
theorem Oi.tr {i : Fin 3} {h h1 h2 : mH} (a : Oi i h h1) (b : Oi i h1 h2) : Oi i h h2 := fun r hr => (b r hr).trans (a r hr)
theorem Oi.pt {i : Fin 3} {h : mH} {q : Nat} {f : Nat → Int32} : Oi i h (hpt h (.inl (i, q)) f) := fun r hr => hpt_ne (hr q)
theorem Oi.up {i : Fin 3} {h : mH} {q k : Nat} {v : Int32} : Oi i h (hup h (.inl (i, q)) k v) := by
  rw [hup_pt]; exact Oi.pt
theorem Oi.oth {i : Fin 3} {h h' : mH} (a : Oi i h h') (n : Nat) : h' (.inr n) = h (.inr n) := a _ (fun _ e => by cases e)
theorem Oi.img {i j : Fin 3} {h h' : mH} (a : Oi i h h') (hj : j ≠ i) (q : Nat) : h' (.inl (j, q)) = h (.inl (j, q)) := a _ (fun _ e => by cases e; exact hj rfl)
theorem CR.pt6 {h : mH} {i : Fin 3} {S : St} (hC : CR h i S) (f : Nat → Int32) : CR (hpt h (.inl (i, 6)) f) i S := by
  obtain ⟨h1, h2, h3, h4, h5, h6, h7, h8⟩ := hC
  refine ⟨?_, ?_, ?_, ?_, ?_, ?_, h7, ?_⟩
  all_goals (rw [hpt_ne (by simp)]; assumption)
theorem CR.oth {h h' : mH} {i j : Fin 3} {S : St} (hC : CR h j S) (ho : Oi i h h') (hj : j ≠ i) : CR h' j S := by
  obtain ⟨h1, h2, h3, h4, h5, h6, h7, h8⟩ := hC
  refine ⟨?_, ?_, ?_, ?_, ?_, ?_, h7, ?_⟩
  all_goals (rw [ho.img hj]; assumption)
theorem ev_alen_g {M : mK} {sL : Nat} {post : mP} {L : Nat → mC} {b pc n : Nat} {t : List Nat} {c : List mE} {ls : mL} {st : List mV} {h : mH} {r : mRef} {k : Nat} (hr : arr sL r = some k) : denB M sL post L b ((pc, .arraylength, n, t) :: c) ls (.inr (.inr r) :: st) h = denB M sL post L b c ls (.inl (nI k) :: st) h := by
  show (match arr sL r with
      | some n => denB M sL post L b c ls (.inl (nI n) :: st) h
      | none => False) = _
  rw [hr]
theorem ev_iast_g {M : mK} {sL : Nat} {post : mP} {L : Nat → mC} {b pc n : Nat} {t : List Nat} {c : List mE} {ls : mL} {st : List mV} {h : mH} {r : mRef} {k : Nat} {x v : Int32} (hr : arw r = some k) : denB M sL post L b ((pc, .iastore, n, t) :: c) ls (.inl v :: .inl x :: .inr (.inr r) :: st) h = (vp_in x k ∧ denB M sL post L b c ls st (hup h r x.toNatClampNeg v)) := by
  show (match arw r with
      | some n => vp_in x n ∧ denB M sL post L b c ls st (hup h r x.toNatClampNeg v)
      | none => False) = _
  rw [hr]
theorem ev_copy {M : mK} {sL : Nat} {post : mP} {L : Nat → mC} {b pc n j : Nat} {c : List mE} {ls : mL} {st : List mV} {h : mH} {r a : mRef} {nd na : Nat} {sp dp cn : Int32} (hr : arw r = some nd) (ha : arw a = some na) (h1 : 0 ≤ sp) (h2 : 0 ≤ dp) (h3 : 0 ≤ cn) (h4 : sp.toNatClampNeg + cn.toNatClampNeg ≤ na) (h5 : dp.toNatClampNeg + cn.toNatClampNeg ≤ nd) (h6 : st.length ≤ 4)
    (H : denB M sL post L b c ls st (hcp h a sp.toNatClampNeg r dp.toNatClampNeg cn.toNatClampNeg)) : denB M sL post L b ((pc, .invokestatic j, n, [9]) :: c) ls (.inl cn :: .inl dp :: .inr (.inr r) :: .inl sp :: .inr (.inr a) :: st) h :=
  ⟨na, nd, ha, hr, h1, h2, h3, h4, h5, h6, H⟩
theorem arr_of_arw {sL : Nat} {r : mRef} {n : Nat} (h : arw r = some n) : arr sL r = some n := by
  unfold arw at h
  unfold arr
  split at h <;> first | exact h | cases h
section CNT
variable {sL d : Nat} {h : mH} {i : Fin 3} {S : St}
theorem k_fill2 {r : mRef} {n : Nat} {v : Int32} {p : mH → Prop} (hr : arw r = some n) (hn : n < 1000) (hp : ∀ f : Nat → Int32, (∀ j, j < n → f j = v) → p (hpt h r f)) : mU (Kd sL (d + 1)) 193 [.inr (.inr r), .inl v] h p := by
  refine ke_J7_fill2 ?_
  refine EX.go (Kd_mono _ _) [false, true, false, false] 40 0 ?_
  dsimp only [wpc_s, wsl_t, wsl_f, gD_0, gD_s, ↓denB_n, pI_s, pG_s, pU_n, cb_J7_fill2_0, cb_J7_fill2_1, cb_J7_fill2_2, cb_J7_fill2_3, ↓ev_iconst_0, ↓ev_istore_n_2, ↓ev_aload_n_0, ↓ev_istore_n_3, ↓ev_iload_n_2, ↓ev_iload_n_3, ↓ev_icmp_ge, ↓ev_iload_n_1, ↓ev_iinc_2_1, ↓ev_goto, ↓ev_ret, Nat.reduceAdd]
  rw [ev_alen_g (arr_of_arw hr)]
  dsimp only [wpc_s, wsl_t, wsl_f, gD_0, gD_s, ↓denB_n, pI_s, pG_s, pU_n, cb_J7_fill2_0, cb_J7_fill2_1, cb_J7_fill2_2, cb_J7_fill2_3, ↓ev_iconst_0, ↓ev_istore_n_2, ↓ev_aload_n_0, ↓ev_istore_n_3, ↓ev_iload_n_2, ↓ev_iload_n_3, ↓ev_icmp_ge, ↓ev_iload_n_1, ↓ev_iinc_2_1, ↓ev_goto, ↓ev_ret, Nat.reduceAdd]
  suffices H : ∀ (f k : Nat) (g : Nat → Int32), k + f = n → (∀ j, j < k → g j = v) → EX (Kd sL d) sL md_J7_fill2 (pU p) 1 [some (.inr (.inr r)), some (.inl v), some (.inl (nI k)), some (.inl (nI n))] [] (hpt h r g) by
    have := H n 0 (h r) (by omega) (fun j hj => absurd hj (Nat.not_lt_zero j))
    rwa [hpt_eta] at this
  intro f
  induction f with
  | zero =>
    intro k g hk hg
    refine EX.go (Kd_mono _ _) [false, true, false, false] 40 1 ?_
    dsimp only [wpc_s, wsl_t, wsl_f, gD_0, gD_s, ↓denB_n, pI_s, pG_s, pU_n, cb_J7_fill2_0, cb_J7_fill2_1, cb_J7_fill2_2, cb_J7_fill2_3, ↓ev_iconst_0, ↓ev_istore_n_2, ↓ev_aload_n_0, ↓ev_istore_n_3, ↓ev_iload_n_2, ↓ev_iload_n_3, ↓ev_icmp_ge, ↓ev_iload_n_1, ↓ev_iinc_2_1, ↓ev_goto, ↓ev_ret, Nat.reduceAdd]
    try simp (disch := omega) only [pk_mul, nI_add, n_lt0, n_le0, n_eq0, n_ge0, n_gt0, n_lt, n_le, n_eq, n_in, n_div, n_rem, n_rem2, n_m1, nI_clamp, bz_0, bz_1, tI_0, tI_bz, n4, n16, eq_self, Nat.reduceLT, Nat.reduceLeDiff, Nat.reduceEqDiff, Nat.reduceAdd, Nat.reduceMul, Nat.reduceDiv, Nat.reduceMod, Nat.le_refl, decide_eq_false_iff_not, Classical.not_not, true_and, and_true, false_and, and_false, not_true_eq_false, not_false_eq_true, forall_const, true_implies, false_implies, implies_true, ne_eq]
    exact ⟨fun _ => hp g (fun j hj => hg j (by omega)), fun c => absurd (show n ≤ k by omega) c⟩
  | succ f ih =>
    intro k g hk hg
    refine EX.go (Kd_mono _ _) [false, true, false, false] 40 1 ?_
    dsimp only [wpc_s, wsl_t, wsl_f, gD_0, gD_s, ↓denB_n, pI_s, pG_s, pU_n, cb_J7_fill2_0, cb_J7_fill2_1, cb_J7_fill2_2, cb_J7_fill2_3, ↓ev_iconst_0, ↓ev_istore_n_2, ↓ev_aload_n_0, ↓ev_istore_n_3, ↓ev_iload_n_2, ↓ev_iload_n_3, ↓ev_icmp_ge, ↓ev_iload_n_1, ↓ev_iinc_2_1, ↓ev_goto, ↓ev_ret, Nat.reduceAdd]
    try simp (disch := omega) only [pk_mul, nI_add, n_lt0, n_le0, n_eq0, n_ge0, n_gt0, n_lt, n_le, n_eq, n_in, n_div, n_rem, n_rem2, n_m1, nI_clamp, bz_0, bz_1, tI_0, tI_bz, n4, n16, eq_self, Nat.reduceLT, Nat.reduceLeDiff, Nat.reduceEqDiff, Nat.reduceAdd, Nat.reduceMul, Nat.reduceDiv, Nat.reduceMod, Nat.le_refl, decide_eq_false_iff_not, Classical.not_not, true_and, and_true, false_and, and_false, not_true_eq_false, not_false_eq_true, forall_const, true_implies, false_implies, implies_true, ne_eq]
    refine ⟨fun c => absurd c (by omega), fun _ => ?_⟩
    rw [ev_iast_g hr]
    dsimp only [wpc_s, wsl_t, wsl_f, gD_0, gD_s, ↓denB_n, pI_s, pG_s, pU_n, cb_J7_fill2_0, cb_J7_fill2_1, cb_J7_fill2_2, cb_J7_fill2_3, ↓ev_iconst_0, ↓ev_istore_n_2, ↓ev_aload_n_0, ↓ev_istore_n_3, ↓ev_iload_n_2, ↓ev_iload_n_3, ↓ev_icmp_ge, ↓ev_iload_n_1, ↓ev_iinc_2_1, ↓ev_goto, ↓ev_ret, Nat.reduceAdd]
    try simp (disch := omega) only [pk_mul, nI_add, n_lt0, n_le0, n_eq0, n_ge0, n_gt0, n_lt, n_le, n_eq, n_in, n_div, n_rem, n_rem2, n_m1, nI_clamp, bz_0, bz_1, tI_0, tI_bz, n4, n16, eq_self, Nat.reduceLT, Nat.reduceLeDiff, Nat.reduceEqDiff, Nat.reduceAdd, Nat.reduceMul, Nat.reduceDiv, Nat.reduceMod, Nat.le_refl, decide_eq_false_iff_not, Classical.not_not, true_and, and_true, false_and, and_false, not_true_eq_false, not_false_eq_true, forall_const, true_implies, false_implies, implies_true, ne_eq, hup_hpt]
    refine ⟨by omega, ih (k + 1) _ (by omega) (fun j hj => ?_)⟩
    rcases Nat.lt_or_ge j k with q | q
    · rw [pk_un (by omega)]; exact hg j q
    · rw [show j = k by omega, pk_us]
theorem k_tablesOf {a b : Nat} {p : Int64 → mH → Prop} (hC : CR h i S) (hab : a ≤ b) (hb : b ≤ 14) (hp : p (lOr (fun t => dec (isT S a b t)) 64) h) : mG (Kd sL (d + 2)) 18 [.inr (.inr (.inl (i, 0))), .inl (nI a), .inl (nI b)] h p := by
  refine ke_X0_tablesOf ?_
  refine EX.go (Kd_mono _ _) [false, true, false, true, false, false, false] 40 0 ?_
  dsimp only [wpc_s, wsl_t, wsl_f, gD_0, gD_s, ↓denB_n, pI_s, pG_s, pU_n, cb_X0_tablesOf_0, cb_X0_tablesOf_1, cb_X0_tablesOf_2, cb_X0_tablesOf_3, cb_X0_tablesOf_4, cb_X0_tablesOf_5, cb_X0_tablesOf_6, ↓ev_lconst_0, ↓ev_lstore_n_3, ↓ev_iload_n_1, ↓ev_istore_5, ↓ev_iload_5, ↓ev_iload_n_2, ↓ev_icmp_ge, ↓ev_iconst_0, ↓ev_istore_6, ↓ev_iload_6, ↓ev_iconst_4, ↓ev_lload_n_3, ↓ev_lconst_1, ↓ev_aload_n_0, ↓ev_callv_3_0_1, ↓ev_callv_3_1_1, ↓ev_callv_3_2_1, ↓ev_callv_3_3_1, ↓ev_callv_3_4_1, ↓ev_callv_3_5_1, ↓ev_lshl, ↓ev_lor, ↓ev_iinc_6_1, ↓ev_goto, ↓ev_iinc_5_1, ↓ev_ldc2_18446744073709551614, ↓ev_land, ↓ev_lret, Nat.reduceAdd]
  suffices H : ∀ (f k : Nat) (x : Int64) (o : Option mV), k + f = b → a ≤ k → (∀ c, c < 64 → tbit x c = dec (∃ d j, a ≤ d ∧ d < k ∧ j < 4 ∧ tb S d j = c)) → EX (Kd sL (d + 1)) sL md_X0_tablesOf (pG p) 1 [some (.inr (.inr (.inl (i, 0)))), some (.inl (nI a)), some (.inl (nI b)), some (.inr (.inl x)), none, some (.inl (nI k)), o] [] h by
    refine H (b - a) a (lN 0) _ (by omega) (Nat.le_refl a) (fun c _ => ?_)
    rw [tbit_0]
    refine (Eq.symm ?_)
    rw [dec_f]
    rintro ⟨d, j, h1, h2, -⟩
    omega
  intro f
  induction f with
  | zero =>
    intro k x o hk hak hx
    refine EX.go (Kd_mono _ _) [false, true, false, true, false, false, false] 40 1 ?_
    dsimp only [wpc_s, wsl_t, wsl_f, gD_0, gD_s, ↓denB_n, pI_s, pG_s, pU_n, cb_X0_tablesOf_0, cb_X0_tablesOf_1, cb_X0_tablesOf_2, cb_X0_tablesOf_3, cb_X0_tablesOf_4, cb_X0_tablesOf_5, cb_X0_tablesOf_6, ↓ev_lconst_0, ↓ev_lstore_n_3, ↓ev_iload_n_1, ↓ev_istore_5, ↓ev_iload_5, ↓ev_iload_n_2, ↓ev_icmp_ge, ↓ev_iconst_0, ↓ev_istore_6, ↓ev_iload_6, ↓ev_iconst_4, ↓ev_lload_n_3, ↓ev_lconst_1, ↓ev_aload_n_0, ↓ev_callv_3_0_1, ↓ev_callv_3_1_1, ↓ev_callv_3_2_1, ↓ev_callv_3_3_1, ↓ev_callv_3_4_1, ↓ev_callv_3_5_1, ↓ev_lshl, ↓ev_lor, ↓ev_iinc_6_1, ↓ev_goto, ↓ev_iinc_5_1, ↓ev_ldc2_18446744073709551614, ↓ev_land, ↓ev_lret, Nat.reduceAdd]
    try simp (disch := omega) only [pk_mul, nI_add, n_lt0, n_le0, n_eq0, n_ge0, n_gt0, n_lt, n_le, n_eq, n_in, n_div, n_rem, n_rem2, n_m1, nI_clamp, bz_0, bz_1, tI_0, tI_bz, n4, n16, eq_self, Nat.reduceLT, Nat.reduceLeDiff, Nat.reduceEqDiff, Nat.reduceAdd, Nat.reduceMul, Nat.reduceDiv, Nat.reduceMod, Nat.le_refl, decide_eq_false_iff_not, Classical.not_not, true_and, and_true, false_and, and_false, not_true_eq_false, not_false_eq_true, forall_const, true_implies, false_implies, implies_true, ne_eq]
    refine ⟨fun _ => ?_, fun c => absurd (show b ≤ k by omega) c⟩
    rw [show x &&& lN 18446744073709551614 = lOr (fun t => dec (isT S a b t)) 64 from lOr_eq (fun c hc => ?_)]
    · exact hp
    · rw [tbit_and, hx c hc, tbit_m2 c hc, dec_dec, dec_and]
      apply dec_iff
      rw [show k = b by omega]
      unfold isT
      exact And.comm
  | succ f ih =>
    intro k x o hk hak hx
    refine EX.go (Kd_mono _ _) [false, true, false, true, false, false, false] 40 1 ?_
    dsimp only [wpc_s, wsl_t, wsl_f, gD_0, gD_s, ↓denB_n, pI_s, pG_s, pU_n, cb_X0_tablesOf_0, cb_X0_tablesOf_1, cb_X0_tablesOf_2, cb_X0_tablesOf_3, cb_X0_tablesOf_4, cb_X0_tablesOf_5, cb_X0_tablesOf_6, ↓ev_lconst_0, ↓ev_lstore_n_3, ↓ev_iload_n_1, ↓ev_istore_5, ↓ev_iload_5, ↓ev_iload_n_2, ↓ev_icmp_ge, ↓ev_iconst_0, ↓ev_istore_6, ↓ev_iload_6, ↓ev_iconst_4, ↓ev_lload_n_3, ↓ev_lconst_1, ↓ev_aload_n_0, ↓ev_callv_3_0_1, ↓ev_callv_3_1_1, ↓ev_callv_3_2_1, ↓ev_callv_3_3_1, ↓ev_callv_3_4_1, ↓ev_callv_3_5_1, ↓ev_lshl, ↓ev_lor, ↓ev_iinc_6_1, ↓ev_goto, ↓ev_iinc_5_1, ↓ev_ldc2_18446744073709551614, ↓ev_land, ↓ev_lret, Nat.reduceAdd]
    try simp (disch := omega) only [pk_mul, nI_add, n_lt0, n_le0, n_eq0, n_ge0, n_gt0, n_lt, n_le, n_eq, n_in, n_div, n_rem, n_rem2, n_m1, nI_clamp, bz_0, bz_1, tI_0, tI_bz, n4, n16, eq_self, Nat.reduceLT, Nat.reduceLeDiff, Nat.reduceEqDiff, Nat.reduceAdd, Nat.reduceMul, Nat.reduceDiv, Nat.reduceMod, Nat.le_refl, decide_eq_false_iff_not, Classical.not_not, true_and, and_true, false_and, and_false, not_true_eq_false, not_false_eq_true, forall_const, true_implies, false_implies, implies_true, ne_eq]
    refine ⟨fun c => absurd c (by omega), fun _ => ?_⟩
    suffices H2 : ∀ (f2 k2 : Nat) (x : Int64), k2 + f2 = 4 → (∀ c, c < 64 → tbit x c = dec ((∃ d j, a ≤ d ∧ d < k ∧ j < 4 ∧ tb S d j = c) ∨ ∃ j, j < k2 ∧ tb S k j = c)) → EX (Kd sL (d + 1)) sL md_X0_tablesOf (pG p) 3 [some (.inr (.inr (.inl (i, 0)))), some (.inl (nI a)), some (.inl (nI b)), some (.inr (.inl x)), none, some (.inl (nI k)), some (.inl (nI k2))] [] h by
      refine H2 4 0 x rfl (fun c hc => ?_)
      rw [hx c hc]
      apply dec_iff
      constructor
      · exact Or.inl
      · rintro (q | ⟨j, hj, -⟩)
        · exact q
        · omega
    intro f2
    induction f2 with
    | zero =>
      intro k2 x hk2 hx
      refine EX.go (Kd_mono _ _) [false, true, false, true, false, false, false] 40 3 ?_
      dsimp only [wpc_s, wsl_t, wsl_f, gD_0, gD_s, ↓denB_n, pI_s, pG_s, pU_n, cb_X0_tablesOf_0, cb_X0_tablesOf_1, cb_X0_tablesOf_2, cb_X0_tablesOf_3, cb_X0_tablesOf_4, cb_X0_tablesOf_5, cb_X0_tablesOf_6, ↓ev_lconst_0, ↓ev_lstore_n_3, ↓ev_iload_n_1, ↓ev_istore_5, ↓ev_iload_5, ↓ev_iload_n_2, ↓ev_icmp_ge, ↓ev_iconst_0, ↓ev_istore_6, ↓ev_iload_6, ↓ev_iconst_4, ↓ev_lload_n_3, ↓ev_lconst_1, ↓ev_aload_n_0, ↓ev_callv_3_0_1, ↓ev_callv_3_1_1, ↓ev_callv_3_2_1, ↓ev_callv_3_3_1, ↓ev_callv_3_4_1, ↓ev_callv_3_5_1, ↓ev_lshl, ↓ev_lor, ↓ev_iinc_6_1, ↓ev_goto, ↓ev_iinc_5_1, ↓ev_ldc2_18446744073709551614, ↓ev_land, ↓ev_lret, Nat.reduceAdd]
      try simp (disch := omega) only [pk_mul, nI_add, n_lt0, n_le0, n_eq0, n_ge0, n_gt0, n_lt, n_le, n_eq, n_in, n_div, n_rem, n_rem2, n_m1, nI_clamp, bz_0, bz_1, tI_0, tI_bz, n4, n16, eq_self, Nat.reduceLT, Nat.reduceLeDiff, Nat.reduceEqDiff, Nat.reduceAdd, Nat.reduceMul, Nat.reduceDiv, Nat.reduceMod, Nat.le_refl, decide_eq_false_iff_not, Classical.not_not, true_and, and_true, false_and, and_false, not_true_eq_false, not_false_eq_true, forall_const, true_implies, false_implies, implies_true, ne_eq]
      refine ⟨fun _ => ?_, fun c => absurd (show 4 ≤ k2 by omega) c⟩
      refine ih (k + 1) x _ (by omega) (by omega) (fun c hc => ?_)
      rw [hx c hc]
      apply dec_iff
      constructor
      · rintro (⟨d, j, h1, h2, h3, h4⟩ | ⟨j, hj, h4⟩)
        · exact ⟨d, j, h1, by omega, h3, h4⟩
        · exact ⟨k, j, hak, by omega, by omega, h4⟩
      · rintro ⟨d, j, h1, h2, h3, h4⟩
        rcases Nat.lt_or_ge d k with q | q
        · exact Or.inl ⟨d, j, h1, q, h3, h4⟩
        · have : d = k := by omega
          subst this
          exact Or.inr ⟨j, by omega, h4⟩
    | succ f2 ih2 =>
      intro k2 x hk2 hx
      refine EX.go (Kd_mono _ _) [false, true, false, true, false, false, false] 40 3 ?_
      dsimp only [wpc_s, wsl_t, wsl_f, gD_0, gD_s, ↓denB_n, pI_s, pG_s, pU_n, cb_X0_tablesOf_0, cb_X0_tablesOf_1, cb_X0_tablesOf_2, cb_X0_tablesOf_3, cb_X0_tablesOf_4, cb_X0_tablesOf_5, cb_X0_tablesOf_6, ↓ev_lconst_0, ↓ev_lstore_n_3, ↓ev_iload_n_1, ↓ev_istore_5, ↓ev_iload_5, ↓ev_iload_n_2, ↓ev_icmp_ge, ↓ev_iconst_0, ↓ev_istore_6, ↓ev_iload_6, ↓ev_iconst_4, ↓ev_lload_n_3, ↓ev_lconst_1, ↓ev_aload_n_0, ↓ev_callv_3_0_1, ↓ev_callv_3_1_1, ↓ev_callv_3_2_1, ↓ev_callv_3_3_1, ↓ev_callv_3_4_1, ↓ev_callv_3_5_1, ↓ev_lshl, ↓ev_lor, ↓ev_iinc_6_1, ↓ev_goto, ↓ev_iinc_5_1, ↓ev_ldc2_18446744073709551614, ↓ev_land, ↓ev_lret, Nat.reduceAdd]
      try simp (disch := omega) only [pk_mul, nI_add, n_lt0, n_le0, n_eq0, n_ge0, n_gt0, n_lt, n_le, n_eq, n_in, n_div, n_rem, n_rem2, n_m1, nI_clamp, bz_0, bz_1, tI_0, tI_bz, n4, n16, eq_self, Nat.reduceLT, Nat.reduceLeDiff, Nat.reduceEqDiff, Nat.reduceAdd, Nat.reduceMul, Nat.reduceDiv, Nat.reduceMod, Nat.le_refl, decide_eq_false_iff_not, Classical.not_not, true_and, and_true, false_and, and_false, not_true_eq_false, not_false_eq_true, forall_const, true_implies, false_implies, implies_true, ne_eq]
      refine ⟨fun c => absurd c (by omega), fun _ => ?_⟩
      refine k_tableAt hC (by omega) (by omega) ?_
      try simp (disch := omega) only [pk_mul, nI_add, n_lt0, n_le0, n_eq0, n_ge0, n_gt0, n_lt, n_le, n_eq, n_in, n_div, n_rem, n_rem2, n_m1, nI_clamp, bz_0, bz_1, tI_0, tI_bz, n4, n16, eq_self, Nat.reduceLT, Nat.reduceLeDiff, Nat.reduceEqDiff, Nat.reduceAdd, Nat.reduceMul, Nat.reduceDiv, Nat.reduceMod, Nat.le_refl, decide_eq_false_iff_not, Classical.not_not, true_and, and_true, false_and, and_false, not_true_eq_false, not_false_eq_true, forall_const, true_implies, false_implies, implies_true, ne_eq]
      refine ih2 (k2 + 1) _ (by omega) (fun c hc => ?_)
      rw [tbit_or, hx c hc, tbit_shl (tb_lt _ _ _), dec_dec, dec_or]
      apply dec_iff
      constructor
      · rintro ((q | ⟨j, hj, h4⟩) | q)
        · exact Or.inl q
        · exact Or.inr ⟨j, by omega, h4⟩
        · exact Or.inr ⟨k2, by omega, q.symm⟩
      · rintro (q | ⟨j, hj, h4⟩)
        · exact Or.inl (Or.inl q)
        · rcases Nat.lt_or_ge j k2 with q | q
          · exact Or.inl (Or.inr ⟨j, q, h4⟩)
          · have : j = k2 := by omega
            subst this
            exact Or.inr h4.symm
theorem k_dataNamedBy {P : Nat → Bool} {p : Int64 → mH → Prop} (hC : CR h i S) (hp : p (lOr (fun c => dec (isD S P c)) 64) h) : mG (Kd sL (d + 2)) 19 [.inr (.inr (.inl (i, 0))), .inr (.inl (lOr P 64))] h p := by
  refine ke_X0_dataNamedBy ?_
  refine EX.go (Kd_mono _ _) [false, true, false, true, false, false, false, false] 40 0 ?_
  dsimp only [wpc_s, wsl_t, wsl_f, gD_0, gD_s, ↓denB_n, pI_s, pG_s, pU_n, cb_X0_dataNamedBy_0, cb_X0_dataNamedBy_1, cb_X0_dataNamedBy_2, cb_X0_dataNamedBy_3, cb_X0_dataNamedBy_4, cb_X0_dataNamedBy_5, cb_X0_dataNamedBy_6, cb_X0_dataNamedBy_7, ↓ev_lconst_0, ↓ev_lstore_n_3, ↓ev_iconst_1, ↓ev_istore_5, ↓ev_iload_5, ↓ev_bipush_64, ↓ev_icmp_ge, ↓ev_iconst_0, ↓ev_istore_6, ↓ev_iload_6, ↓ev_iconst_4, ↓ev_lload_n_1, ↓ev_calls_2_0_1, ↓ev_calls_2_1_1, ↓ev_calls_2_2_1, ↓ev_calls_2_3_1, ↓ev_calls_2_4_1, ↓ev_if_eq, ↓ev_lload_n_3, ↓ev_lconst_1, ↓ev_aload_n_0, ↓ev_callv_3_0_1, ↓ev_callv_3_1_1, ↓ev_callv_3_2_1, ↓ev_callv_3_3_1, ↓ev_callv_3_4_1, ↓ev_callv_3_5_1, ↓ev_lshl, ↓ev_lor, ↓ev_iinc_6_1, ↓ev_goto, ↓ev_iinc_5_1, ↓ev_ldc2_18446744073709551614, ↓ev_land, ↓ev_lret, Nat.reduceAdd]
  suffices H : ∀ (f k : Nat) (x : Int64) (o : Option mV), k + f = 64 → 1 ≤ k → (∀ c, c < 64 → tbit x c = dec (∃ t j, 1 ≤ t ∧ t < k ∧ j < 4 ∧ P t = true ∧ dt S t j = c)) → EX (Kd sL (d + 1)) sL md_X0_dataNamedBy (pG p) 1 [some (.inr (.inr (.inl (i, 0)))), some (.inr (.inl (lOr P 64))), none, some (.inr (.inl x)), none, some (.inl (nI k)), o] [] h by
    refine H 63 1 (lN 0) _ (by omega) (Nat.le_refl 1) (fun c _ => ?_)
    rw [tbit_0]
    refine (Eq.symm ?_)
    rw [dec_f]
    rintro ⟨d, j, h1, h2, -⟩
    omega
  intro f
  induction f with
  | zero =>
    intro k x o hk hak hx
    refine EX.go (Kd_mono _ _) [false, true, false, true, false, false, false, false] 40 1 ?_
    dsimp only [wpc_s, wsl_t, wsl_f, gD_0, gD_s, ↓denB_n, pI_s, pG_s, pU_n, cb_X0_dataNamedBy_0, cb_X0_dataNamedBy_1, cb_X0_dataNamedBy_2, cb_X0_dataNamedBy_3, cb_X0_dataNamedBy_4, cb_X0_dataNamedBy_5, cb_X0_dataNamedBy_6, cb_X0_dataNamedBy_7, ↓ev_lconst_0, ↓ev_lstore_n_3, ↓ev_iconst_1, ↓ev_istore_5, ↓ev_iload_5, ↓ev_bipush_64, ↓ev_icmp_ge, ↓ev_iconst_0, ↓ev_istore_6, ↓ev_iload_6, ↓ev_iconst_4, ↓ev_lload_n_1, ↓ev_calls_2_0_1, ↓ev_calls_2_1_1, ↓ev_calls_2_2_1, ↓ev_calls_2_3_1, ↓ev_calls_2_4_1, ↓ev_if_eq, ↓ev_lload_n_3, ↓ev_lconst_1, ↓ev_aload_n_0, ↓ev_callv_3_0_1, ↓ev_callv_3_1_1, ↓ev_callv_3_2_1, ↓ev_callv_3_3_1, ↓ev_callv_3_4_1, ↓ev_callv_3_5_1, ↓ev_lshl, ↓ev_lor, ↓ev_iinc_6_1, ↓ev_goto, ↓ev_iinc_5_1, ↓ev_ldc2_18446744073709551614, ↓ev_land, ↓ev_lret, Nat.reduceAdd]
    try simp (disch := omega) only [pk_mul, nI_add, n_lt0, n_le0, n_eq0, n_ge0, n_gt0, n_lt, n_le, n_eq, n_in, n_div, n_rem, n_rem2, n_m1, nI_clamp, bz_0, bz_1, tI_0, tI_bz, n4, n16, eq_self, Nat.reduceLT, Nat.reduceLeDiff, Nat.reduceEqDiff, Nat.reduceAdd, Nat.reduceMul, Nat.reduceDiv, Nat.reduceMod, Nat.le_refl, decide_eq_false_iff_not, Classical.not_not, true_and, and_true, false_and, and_false, not_true_eq_false, not_false_eq_true, forall_const, true_implies, false_implies, implies_true, ne_eq]
    refine ⟨fun _ => ?_, fun c => absurd (show 64 ≤ k by omega) c⟩
    rw [show x &&& lN 18446744073709551614 = lOr (fun c => dec (isD S P c)) 64 from lOr_eq (fun c hc => ?_)]
    · exact hp
    · rw [tbit_and, hx c hc, tbit_m2 c hc, dec_dec, dec_and]
      apply dec_iff
      rw [show k = 64 by omega]
      unfold isD
      exact And.comm
  | succ f ih =>
    intro k x o hk hak hx
    refine EX.go (Kd_mono _ _) [false, true, false, true, false, false, false, false] 40 1 ?_
    dsimp only [wpc_s, wsl_t, wsl_f, gD_0, gD_s, ↓denB_n, pI_s, pG_s, pU_n, cb_X0_dataNamedBy_0, cb_X0_dataNamedBy_1, cb_X0_dataNamedBy_2, cb_X0_dataNamedBy_3, cb_X0_dataNamedBy_4, cb_X0_dataNamedBy_5, cb_X0_dataNamedBy_6, cb_X0_dataNamedBy_7, ↓ev_lconst_0, ↓ev_lstore_n_3, ↓ev_iconst_1, ↓ev_istore_5, ↓ev_iload_5, ↓ev_bipush_64, ↓ev_icmp_ge, ↓ev_iconst_0, ↓ev_istore_6, ↓ev_iload_6, ↓ev_iconst_4, ↓ev_lload_n_1, ↓ev_calls_2_0_1, ↓ev_calls_2_1_1, ↓ev_calls_2_2_1, ↓ev_calls_2_3_1, ↓ev_calls_2_4_1, ↓ev_if_eq, ↓ev_lload_n_3, ↓ev_lconst_1, ↓ev_aload_n_0, ↓ev_callv_3_0_1, ↓ev_callv_3_1_1, ↓ev_callv_3_2_1, ↓ev_callv_3_3_1, ↓ev_callv_3_4_1, ↓ev_callv_3_5_1, ↓ev_lshl, ↓ev_lor, ↓ev_iinc_6_1, ↓ev_goto, ↓ev_iinc_5_1, ↓ev_ldc2_18446744073709551614, ↓ev_land, ↓ev_lret, Nat.reduceAdd]
    try simp (disch := omega) only [pk_mul, nI_add, n_lt0, n_le0, n_eq0, n_ge0, n_gt0, n_lt, n_le, n_eq, n_in, n_div, n_rem, n_rem2, n_m1, nI_clamp, bz_0, bz_1, tI_0, tI_bz, n4, n16, eq_self, Nat.reduceLT, Nat.reduceLeDiff, Nat.reduceEqDiff, Nat.reduceAdd, Nat.reduceMul, Nat.reduceDiv, Nat.reduceMod, Nat.le_refl, decide_eq_false_iff_not, Classical.not_not, true_and, and_true, false_and, and_false, not_true_eq_false, not_false_eq_true, forall_const, true_implies, false_implies, implies_true, ne_eq]
    refine ⟨fun c => absurd c (by omega), fun _ => ?_⟩
    suffices H2 : ∀ (f2 k2 : Nat) (x : Int64), k2 + f2 = 4 → (∀ c, c < 64 → tbit x c = dec ((∃ t j, 1 ≤ t ∧ t < k ∧ j < 4 ∧ P t = true ∧ dt S t j = c) ∨ ∃ j, j < k2 ∧ P k = true ∧ dt S k j = c)) → EX (Kd sL (d + 1)) sL md_X0_dataNamedBy (pG p) 3 [some (.inr (.inr (.inl (i, 0)))), some (.inr (.inl (lOr P 64))), none, some (.inr (.inl x)), none, some (.inl (nI k)), some (.inl (nI k2))] [] h by
      refine H2 4 0 x rfl (fun c hc => ?_)
      rw [hx c hc]
      apply dec_iff
      constructor
      · exact Or.inl
      · rintro (q | ⟨j, hj, -⟩)
        · exact q
        · omega
    intro f2
    induction f2 with
    | zero =>
      intro k2 x hk2 hx
      refine EX.go (Kd_mono _ _) [false, true, false, true, false, false, false, false] 40 3 ?_
      dsimp only [wpc_s, wsl_t, wsl_f, gD_0, gD_s, ↓denB_n, pI_s, pG_s, pU_n, cb_X0_dataNamedBy_0, cb_X0_dataNamedBy_1, cb_X0_dataNamedBy_2, cb_X0_dataNamedBy_3, cb_X0_dataNamedBy_4, cb_X0_dataNamedBy_5, cb_X0_dataNamedBy_6, cb_X0_dataNamedBy_7, ↓ev_lconst_0, ↓ev_lstore_n_3, ↓ev_iconst_1, ↓ev_istore_5, ↓ev_iload_5, ↓ev_bipush_64, ↓ev_icmp_ge, ↓ev_iconst_0, ↓ev_istore_6, ↓ev_iload_6, ↓ev_iconst_4, ↓ev_lload_n_1, ↓ev_calls_2_0_1, ↓ev_calls_2_1_1, ↓ev_calls_2_2_1, ↓ev_calls_2_3_1, ↓ev_calls_2_4_1, ↓ev_if_eq, ↓ev_lload_n_3, ↓ev_lconst_1, ↓ev_aload_n_0, ↓ev_callv_3_0_1, ↓ev_callv_3_1_1, ↓ev_callv_3_2_1, ↓ev_callv_3_3_1, ↓ev_callv_3_4_1, ↓ev_callv_3_5_1, ↓ev_lshl, ↓ev_lor, ↓ev_iinc_6_1, ↓ev_goto, ↓ev_iinc_5_1, ↓ev_ldc2_18446744073709551614, ↓ev_land, ↓ev_lret, Nat.reduceAdd]
      try simp (disch := omega) only [pk_mul, nI_add, n_lt0, n_le0, n_eq0, n_ge0, n_gt0, n_lt, n_le, n_eq, n_in, n_div, n_rem, n_rem2, n_m1, nI_clamp, bz_0, bz_1, tI_0, tI_bz, n4, n16, eq_self, Nat.reduceLT, Nat.reduceLeDiff, Nat.reduceEqDiff, Nat.reduceAdd, Nat.reduceMul, Nat.reduceDiv, Nat.reduceMod, Nat.le_refl, decide_eq_false_iff_not, Classical.not_not, true_and, and_true, false_and, and_false, not_true_eq_false, not_false_eq_true, forall_const, true_implies, false_implies, implies_true, ne_eq]
      refine ⟨fun _ => ?_, fun c => absurd (show 4 ≤ k2 by omega) c⟩
      refine ih (k + 1) x _ (by omega) (by omega) (fun c hc => ?_)
      rw [hx c hc]
      apply dec_iff
      constructor
      · rintro (⟨d, j, h1, h2, h3, h4⟩ | ⟨j, hj, h4⟩)
        · exact ⟨d, j, h1, by omega, h3, h4⟩
        · exact ⟨k, j, hak, by omega, by omega, h4⟩
      · rintro ⟨d, j, h1, h2, h3, h4⟩
        rcases Nat.lt_or_ge d k with q | q
        · exact Or.inl ⟨d, j, h1, q, h3, h4⟩
        · have : d = k := by omega
          subst this
          exact Or.inr ⟨j, by omega, h4⟩
    | succ f2 ih2 =>
      intro k2 x hk2 hx
      refine EX.go (Kd_mono _ _) [false, true, false, true, false, false, false, false] 40 3 ?_
      dsimp only [wpc_s, wsl_t, wsl_f, gD_0, gD_s, ↓denB_n, pI_s, pG_s, pU_n, cb_X0_dataNamedBy_0, cb_X0_dataNamedBy_1, cb_X0_dataNamedBy_2, cb_X0_dataNamedBy_3, cb_X0_dataNamedBy_4, cb_X0_dataNamedBy_5, cb_X0_dataNamedBy_6, cb_X0_dataNamedBy_7, ↓ev_lconst_0, ↓ev_lstore_n_3, ↓ev_iconst_1, ↓ev_istore_5, ↓ev_iload_5, ↓ev_bipush_64, ↓ev_icmp_ge, ↓ev_iconst_0, ↓ev_istore_6, ↓ev_iload_6, ↓ev_iconst_4, ↓ev_lload_n_1, ↓ev_calls_2_0_1, ↓ev_calls_2_1_1, ↓ev_calls_2_2_1, ↓ev_calls_2_3_1, ↓ev_calls_2_4_1, ↓ev_if_eq, ↓ev_lload_n_3, ↓ev_lconst_1, ↓ev_aload_n_0, ↓ev_callv_3_0_1, ↓ev_callv_3_1_1, ↓ev_callv_3_2_1, ↓ev_callv_3_3_1, ↓ev_callv_3_4_1, ↓ev_callv_3_5_1, ↓ev_lshl, ↓ev_lor, ↓ev_iinc_6_1, ↓ev_goto, ↓ev_iinc_5_1, ↓ev_ldc2_18446744073709551614, ↓ev_land, ↓ev_lret, Nat.reduceAdd]
      try simp (disch := omega) only [pk_mul, nI_add, n_lt0, n_le0, n_eq0, n_ge0, n_gt0, n_lt, n_le, n_eq, n_in, n_div, n_rem, n_rem2, n_m1, nI_clamp, bz_0, bz_1, tI_0, tI_bz, n4, n16, eq_self, Nat.reduceLT, Nat.reduceLeDiff, Nat.reduceEqDiff, Nat.reduceAdd, Nat.reduceMul, Nat.reduceDiv, Nat.reduceMod, Nat.le_refl, decide_eq_false_iff_not, Classical.not_not, true_and, and_true, false_and, and_false, not_true_eq_false, not_false_eq_true, forall_const, true_implies, false_implies, implies_true, ne_eq]
      refine ⟨fun c => absurd c (by omega), fun _ => ?_⟩
      refine k_isIn (by omega) ?_
      try simp (disch := omega) only [pk_mul, nI_add, n_lt0, n_le0, n_eq0, n_ge0, n_gt0, n_lt, n_le, n_eq, n_in, n_div, n_rem, n_rem2, n_m1, nI_clamp, bz_0, bz_1, tI_0, tI_bz, n4, n16, eq_self, Nat.reduceLT, Nat.reduceLeDiff, Nat.reduceEqDiff, Nat.reduceAdd, Nat.reduceMul, Nat.reduceDiv, Nat.reduceMod, Nat.le_refl, decide_eq_false_iff_not, Classical.not_not, true_and, and_true, false_and, and_false, not_true_eq_false, not_false_eq_true, forall_const, true_implies, false_implies, implies_true, ne_eq]
      refine ⟨fun c => ?_, fun c => ?_⟩
      · refine ih (k + 1) x _ (by omega) (by omega) (fun e he => ?_)
        rw [hx e he]
        apply dec_iff
        constructor
        · rintro (⟨d, j, h1, h2, h3, h4⟩ | ⟨j, hj, h4, -⟩)
          · exact ⟨d, j, h1, by omega, h3, h4⟩
          · rw [c] at h4; cases h4
        · rintro ⟨d, j, h1, h2, h3, h4, h5⟩
          rcases Nat.lt_or_ge d k with q | q
          · exact Or.inl ⟨d, j, h1, q, h3, h4, h5⟩
          · rw [show d = k by omega, c] at h4; cases h4
      · have hPk : P k = true := by simpa using c
        refine k_dataAt hC (by omega) (by omega) ?_
        try simp (disch := omega) only [pk_mul, nI_add, n_lt0, n_le0, n_eq0, n_ge0, n_gt0, n_lt, n_le, n_eq, n_in, n_div, n_rem, n_rem2, n_m1, nI_clamp, bz_0, bz_1, tI_0, tI_bz, n4, n16, eq_self, Nat.reduceLT, Nat.reduceLeDiff, Nat.reduceEqDiff, Nat.reduceAdd, Nat.reduceMul, Nat.reduceDiv, Nat.reduceMod, Nat.le_refl, decide_eq_false_iff_not, Classical.not_not, true_and, and_true, false_and, and_false, not_true_eq_false, not_false_eq_true, forall_const, true_implies, false_implies, implies_true, ne_eq]
        refine ih2 (k2 + 1) _ (by omega) (fun c hc => ?_)
        rw [tbit_or, hx c hc, tbit_shl (dt_lt _ _ _), dec_dec, dec_or]
        apply dec_iff
        constructor
        · rintro ((q | ⟨j, hj, h4⟩) | q)
          · exact Or.inl q
          · exact Or.inr ⟨j, by omega, h4⟩
          · exact Or.inr ⟨k2, by omega, hPk, q.symm⟩
        · rintro (q | ⟨j, hj, h3, h4⟩)
          · exact Or.inl (Or.inl q)
          · rcases Nat.lt_or_ge j k2 with q | q
            · exact Or.inl (Or.inr ⟨j, q, h3, h4⟩)
            · have : j = k2 := by omega
              subst this
              exact Or.inr h4.symm
/-- what a holder holds -/
def hld (S : St) (dd c : Nat) : Prop := isT S dd (dd + 1) c ∨ isD S (fun t => dec (isT S dd (dd + 1) t)) c
theorem k_heldBy {dd : Nat} {p : Int64 → mH → Prop} (hC : CR h i S) (hd : dd < 14) (hp : p (lOr (fun c => dec (hld S dd c)) 64) h) : mG (Kd sL (d + 3)) 20 [.inr (.inr (.inl (i, 0))), .inl (nI dd)] h p := by
  refine ke_X0_heldBy ?_
  refine EX.go (Kd_mono _ _) [false, false, false, false] 40 0 ?_
  dsimp only [wpc_s, wsl_t, wsl_f, gD_0, gD_s, ↓denB_n, pI_s, pG_s, pU_n, cb_X0_heldBy_0, cb_X0_heldBy_1, cb_X0_heldBy_2, cb_X0_heldBy_3, ↓ev_iload_n_1, ↓ev_if_ge, ↓ev_lconst_0, ↓ev_goto, ↓ev_aload_n_0, ↓ev_iconst_1, ↓ev_iadd, ↓ev_callv_3_0_2, ↓ev_callv_3_1_2, ↓ev_callv_3_2_2, ↓ev_callv_3_3_2, ↓ev_callv_3_4_2, ↓ev_lstore_n_2, ↓ev_lload_n_2, ↓ev_callv_2_0_2, ↓ev_callv_2_1_2, ↓ev_callv_2_2_2, ↓ev_callv_2_3_2, ↓ev_callv_2_4_2, ↓ev_lor, ↓ev_lret, Nat.reduceAdd]
  try simp (disch := omega) only [pk_mul, nI_add, n_lt0, n_le0, n_eq0, n_ge0, n_gt0, n_lt, n_le, n_eq, n_in, n_div, n_rem, n_rem2, n_m1, nI_clamp, bz_0, bz_1, tI_0, tI_bz, n4, n16, eq_self, Nat.reduceLT, Nat.reduceLeDiff, Nat.reduceEqDiff, Nat.reduceAdd, Nat.reduceMul, Nat.reduceDiv, Nat.reduceMod, Nat.le_refl, decide_eq_false_iff_not, Classical.not_not, true_and, and_true, false_and, and_false, not_true_eq_false, not_false_eq_true, forall_const, true_implies, false_implies, implies_true, ne_eq]
  refine k_tablesOf hC (by omega) (by omega) ?_
  refine k_dataNamedBy hC ?_
  rw [show lOr (fun t => dec (isT S dd (dd + 1) t)) 64 ||| lOr (fun c => dec (isD S (fun t => dec (isT S dd (dd + 1) t)) c)) 64 = lOr (fun c => dec (hld S dd c)) 64 from lOr_eq (fun c hc => ?_)]
  · exact hp
  · rw [tbit_or, tbit_lOr _ 64 c (by omega), tbit_lOr _ 64 c (by omega)]
    simp only [hc, decide_true, Bool.true_and]
    exact dec_or
theorem k_heldBy_none {p : Int64 → mH → Prop} (hC : CR h i S) (hp : p (lN 0) h) : mG (Kd sL (d + 3)) 20 [.inr (.inr (.inl (i, 0))), .inl (-1)] h p := by
  refine ke_X0_heldBy ?_
  refine EX.go (Kd_mono _ _) [false, false, false, false] 40 0 ?_
  dsimp only [wpc_s, wsl_t, wsl_f, gD_0, gD_s, ↓denB_n, pI_s, pG_s, pU_n, cb_X0_heldBy_0, cb_X0_heldBy_1, cb_X0_heldBy_2, cb_X0_heldBy_3, ↓ev_iload_n_1, ↓ev_if_ge, ↓ev_lconst_0, ↓ev_goto, ↓ev_aload_n_0, ↓ev_iconst_1, ↓ev_iadd, ↓ev_callv_3_0_2, ↓ev_callv_3_1_2, ↓ev_callv_3_2_2, ↓ev_callv_3_3_2, ↓ev_callv_3_4_2, ↓ev_lstore_n_2, ↓ev_lload_n_2, ↓ev_callv_2_0_2, ↓ev_callv_2_1_2, ↓ev_callv_2_2_2, ↓ev_callv_2_3_2, ↓ev_callv_2_4_2, ↓ev_lor, ↓ev_lret, Nat.reduceAdd]
  have e0 : lN 0 = lOr (fun _ => false) 64 := by
    rw [eq_comm, lOr_0]
    exact fun _ _ => rfl
  refine ⟨fun c => absurd c (by decide), fun _ => ?_⟩
  rw [e0]
  refine k_dataNamedBy hC ?_
  rw [show lOr (fun _ => false) 64 ||| lOr (fun c => dec (isD S (fun _ => false) c)) 64 = lN 0 from ?_]
  · exact hp
  · apply tbit_ext
    intro c hc
    rw [tbit_or, tbit_lOr _ 64 c (by omega), tbit_lOr _ 64 c (by omega), tbit_0]
    have : dec (isD S (fun _ => false) c) = false := by
      rw [dec_f]
      rintro ⟨-, t, k, -, -, -, z, -⟩
      cases z
    simp [this]
/-! counting -/
def icn (a b : Nat) : Nat := if a = b then 1 else 0
def cn4 (S : St) (t c : Nat) : Nat := fb_sm (fun k => icn (dt S t k) c) 4
noncomputable def nmc (S : St) (c : Nat) : Nat := fb_sm (fun t => if dec (isT S 0 14 t) then cn4 S t c else 0) 64
def rf4 (S : St) (dd c : Nat) : Nat := fb_sm (fun k => icn (tb S dd k) c) 4
def rfc (S : St) (c : Nat) : Nat := fb_sm (fun dd => rf4 S dd c) 14
/-- the true count -/
noncomputable def tru (S : St) (c : Nat) : Nat := rfc S c + nmc S c
theorem upd_icn {f : Nat → Int32} {k : Nat} {g : Nat → Nat} (hf : ∀ c, 1 ≤ c → c < 64 → f c = nI (g c)) : ∀ c, 1 ≤ c → c < 64 → upd f k (f k + nI 1) c = nI (g c + icn k c) := by
  intro c h1 h2
  by_cases e : c = k
  · subst e
    rw [pk_us, hf c h1 h2, nI_add]
    simp [icn]
  · rw [pk_un e, hf c h1 h2]
    simp [icn, Ne.symm e]
theorem k_countCells {p : mH → Prop} (hC : CR h i S) (hp : ∀ h', Oi i h h' → CR h' i S → (∀ c, 1 ≤ c → c < 64 → h' (.inl (i, 6)) c = nI (nmc S c)) → p h') : mU (Kd sL (d + 3)) 21 [.inr (.inr (.inl (i, 0)))] h p := by
  refine ke_X0_countCells ?_
  refine EX.go (Kd_mono _ _) [false, true, false, true, false, false, false, false] 40 0 ?_
  dsimp only [wpc_s, wsl_t, wsl_f, gD_0, gD_s, ↓denB_n, pI_s, pG_s, pU_n, cb_X0_countCells_0, cb_X0_countCells_1, cb_X0_countCells_2, cb_X0_countCells_3, cb_X0_countCells_4, cb_X0_countCells_5, cb_X0_countCells_6, cb_X0_countCells_7, ↓ev_aload_n_0, ↓ev_getf_0_7, ↓ev_iconst_0, ↓ev_calls_2_0_0, ↓ev_calls_2_1_0, ↓ev_calls_2_2_0, ↓ev_calls_2_3_0, ↓ev_calls_2_4_0, ↓ev_bipush_14, ↓ev_callv_3_0_2, ↓ev_callv_3_1_2, ↓ev_callv_3_2_2, ↓ev_callv_3_3_2, ↓ev_callv_3_4_2, ↓ev_lstore_n_1, ↓ev_iconst_1, ↓ev_istore_n_3, ↓ev_iload_n_3, ↓ev_bipush_64, ↓ev_icmp_ge, ↓ev_istore_4, ↓ev_iload_4, ↓ev_iconst_4, ↓ev_lload_n_1, ↓ev_calls_2_0_1, ↓ev_calls_2_1_1, ↓ev_calls_2_2_1, ↓ev_calls_2_3_1, ↓ev_calls_2_4_1, ↓ev_if_eq, ↓ev_callv_3_0_1, ↓ev_callv_3_1_1, ↓ev_callv_3_2_1, ↓ev_callv_3_3_1, ↓ev_callv_3_4_1, ↓ev_callv_3_5_1, ↓ev_dup2, ↓ev_iald_m1, ↓ev_iald_m2, ↓ev_iald_m3, ↓ev_iald_m4, ↓ev_iald_m5, ↓ev_iald_m6, ↓ev_iadd, ↓ev_iast_m1, ↓ev_iast_m2, ↓ev_iast_m3, ↓ev_iast_m4, ↓ev_iast_m5, ↓ev_iast_m6, ↓ev_iinc_4_1, ↓ev_goto, ↓ev_iinc_3_1, ↓ev_ret, Nat.reduceAdd]
  refine k_fill2 (r := .inl (i, 6)) (n := 64) rfl (by decide) (fun g hg => ?_)
  refine k_tablesOf (hC.pt6 g) (by decide) (by decide) ?_
  suffices H : ∀ (f k : Nat) (g : Nat → Int32) (o : Option mV), k + f = 64 → 1 ≤ k → (∀ c, 1 ≤ c → c < 64 → g c = nI (fb_sm (fun t => if dec (isT S 0 14 t) then cn4 S t c else 0) k)) → EX (Kd sL (d + 2)) sL md_X0_countCells (pU p) 1 [some (.inr (.inr (.inl (i, 0)))), some (.inr (.inl (lOr (fun t => dec (isT S 0 14 t)) 64))), none, some (.inl (nI k)), o] [] (hpt h (.inl (i, 6)) g) by
    refine H 63 1 g _ (by omega) (Nat.le_refl 1) (fun c h1 h2 => ?_)
    rw [hg c h2]
    have e0 : dec (isT S 0 14 0) = false := by rw [dec_f]; exact fun z => z.1 rfl
    simp [fb_sm, e0]
  intro f
  induction f with
  | zero =>
    intro k g o hk h1 hg
    refine EX.go (Kd_mono _ _) [false, true, false, true, false, false, false, false] 40 1 ?_
    dsimp only [wpc_s, wsl_t, wsl_f, gD_0, gD_s, ↓denB_n, pI_s, pG_s, pU_n, cb_X0_countCells_0, cb_X0_countCells_1, cb_X0_countCells_2, cb_X0_countCells_3, cb_X0_countCells_4, cb_X0_countCells_5, cb_X0_countCells_6, cb_X0_countCells_7, ↓ev_aload_n_0, ↓ev_getf_0_7, ↓ev_iconst_0, ↓ev_calls_2_0_0, ↓ev_calls_2_1_0, ↓ev_calls_2_2_0, ↓ev_calls_2_3_0, ↓ev_calls_2_4_0, ↓ev_bipush_14, ↓ev_callv_3_0_2, ↓ev_callv_3_1_2, ↓ev_callv_3_2_2, ↓ev_callv_3_3_2, ↓ev_callv_3_4_2, ↓ev_lstore_n_1, ↓ev_iconst_1, ↓ev_istore_n_3, ↓ev_iload_n_3, ↓ev_bipush_64, ↓ev_icmp_ge, ↓ev_istore_4, ↓ev_iload_4, ↓ev_iconst_4, ↓ev_lload_n_1, ↓ev_calls_2_0_1, ↓ev_calls_2_1_1, ↓ev_calls_2_2_1, ↓ev_calls_2_3_1, ↓ev_calls_2_4_1, ↓ev_if_eq, ↓ev_callv_3_0_1, ↓ev_callv_3_1_1, ↓ev_callv_3_2_1, ↓ev_callv_3_3_1, ↓ev_callv_3_4_1, ↓ev_callv_3_5_1, ↓ev_dup2, ↓ev_iald_m1, ↓ev_iald_m2, ↓ev_iald_m3, ↓ev_iald_m4, ↓ev_iald_m5, ↓ev_iald_m6, ↓ev_iadd, ↓ev_iast_m1, ↓ev_iast_m2, ↓ev_iast_m3, ↓ev_iast_m4, ↓ev_iast_m5, ↓ev_iast_m6, ↓ev_iinc_4_1, ↓ev_goto, ↓ev_iinc_3_1, ↓ev_ret, Nat.reduceAdd]
    try simp (disch := omega) only [pk_mul, nI_add, n_lt0, n_le0, n_eq0, n_ge0, n_gt0, n_lt, n_le, n_eq, n_in, n_div, n_rem, n_rem2, n_m1, nI_clamp, bz_0, bz_1, tI_0, tI_bz, n4, n16, eq_self, Nat.reduceLT, Nat.reduceLeDiff, Nat.reduceEqDiff, Nat.reduceAdd, Nat.reduceMul, Nat.reduceDiv, Nat.reduceMod, Nat.le_refl, decide_eq_false_iff_not, Classical.not_not, true_and, and_true, false_and, and_false, not_true_eq_false, not_false_eq_true, forall_const, true_implies, false_implies, implies_true, ne_eq]
    refine ⟨fun _ => ?_, fun c => absurd (show 64 ≤ k by omega) c⟩
    rw [hup_hpt]
    refine hp _ Oi.pt (hC.pt6 _) (fun c h1 h2 => ?_)
    rw [hpt_self, pk_un (by omega), hg c h1 h2, show k = 64 by omega]
    rfl
  | succ f ih =>
    intro k g o hk h1 hg
    refine EX.go (Kd_mono _ _) [false, true, false, true, false, false, false, false] 40 1 ?_
    dsimp only [wpc_s, wsl_t, wsl_f, gD_0, gD_s, ↓denB_n, pI_s, pG_s, pU_n, cb_X0_countCells_0, cb_X0_countCells_1, cb_X0_countCells_2, cb_X0_countCells_3, cb_X0_countCells_4, cb_X0_countCells_5, cb_X0_countCells_6, cb_X0_countCells_7, ↓ev_aload_n_0, ↓ev_getf_0_7, ↓ev_iconst_0, ↓ev_calls_2_0_0, ↓ev_calls_2_1_0, ↓ev_calls_2_2_0, ↓ev_calls_2_3_0, ↓ev_calls_2_4_0, ↓ev_bipush_14, ↓ev_callv_3_0_2, ↓ev_callv_3_1_2, ↓ev_callv_3_2_2, ↓ev_callv_3_3_2, ↓ev_callv_3_4_2, ↓ev_lstore_n_1, ↓ev_iconst_1, ↓ev_istore_n_3, ↓ev_iload_n_3, ↓ev_bipush_64, ↓ev_icmp_ge, ↓ev_istore_4, ↓ev_iload_4, ↓ev_iconst_4, ↓ev_lload_n_1, ↓ev_calls_2_0_1, ↓ev_calls_2_1_1, ↓ev_calls_2_2_1, ↓ev_calls_2_3_1, ↓ev_calls_2_4_1, ↓ev_if_eq, ↓ev_callv_3_0_1, ↓ev_callv_3_1_1, ↓ev_callv_3_2_1, ↓ev_callv_3_3_1, ↓ev_callv_3_4_1, ↓ev_callv_3_5_1, ↓ev_dup2, ↓ev_iald_m1, ↓ev_iald_m2, ↓ev_iald_m3, ↓ev_iald_m4, ↓ev_iald_m5, ↓ev_iald_m6, ↓ev_iadd, ↓ev_iast_m1, ↓ev_iast_m2, ↓ev_iast_m3, ↓ev_iast_m4, ↓ev_iast_m5, ↓ev_iast_m6, ↓ev_iinc_4_1, ↓ev_goto, ↓ev_iinc_3_1, ↓ev_ret, Nat.reduceAdd]
    try simp (disch := omega) only [pk_mul, nI_add, n_lt0, n_le0, n_eq0, n_ge0, n_gt0, n_lt, n_le, n_eq, n_in, n_div, n_rem, n_rem2, n_m1, nI_clamp, bz_0, bz_1, tI_0, tI_bz, n4, n16, eq_self, Nat.reduceLT, Nat.reduceLeDiff, Nat.reduceEqDiff, Nat.reduceAdd, Nat.reduceMul, Nat.reduceDiv, Nat.reduceMod, Nat.le_refl, decide_eq_false_iff_not, Classical.not_not, true_and, and_true, false_and, and_false, not_true_eq_false, not_false_eq_true, forall_const, true_implies, false_implies, implies_true, ne_eq]
    refine ⟨fun c => absurd c (by omega), fun _ => ?_⟩
    suffices H2 : ∀ (f2 k2 : Nat) (g : Nat → Int32), k2 + f2 = 4 → (∀ c, 1 ≤ c → c < 64 → g c = nI (fb_sm (fun t => if dec (isT S 0 14 t) then cn4 S t c else 0) k + (if dec (isT S 0 14 k) then fb_sm (fun j => icn (dt S k j) c) k2 else 0))) → EX (Kd sL (d + 2)) sL md_X0_countCells (pU p) 3 [some (.inr (.inr (.inl (i, 0)))), some (.inr (.inl (lOr (fun t => dec (isT S 0 14 t)) 64))), none, some (.inl (nI k)), some (.inl (nI k2))] [] (hpt h (.inl (i, 6)) g) by
      refine H2 4 0 g rfl (fun c h1 h2 => ?_)
      rw [hg c h1 h2]
      simp [fb_sm]
    intro f2
    induction f2 with
    | zero =>
      intro k2 g hk2 hg
      refine EX.go (Kd_mono _ _) [false, true, false, true, false, false, false, false] 40 3 ?_
      dsimp only [wpc_s, wsl_t, wsl_f, gD_0, gD_s, ↓denB_n, pI_s, pG_s, pU_n, cb_X0_countCells_0, cb_X0_countCells_1, cb_X0_countCells_2, cb_X0_countCells_3, cb_X0_countCells_4, cb_X0_countCells_5, cb_X0_countCells_6, cb_X0_countCells_7, ↓ev_aload_n_0, ↓ev_getf_0_7, ↓ev_iconst_0, ↓ev_calls_2_0_0, ↓ev_calls_2_1_0, ↓ev_calls_2_2_0, ↓ev_calls_2_3_0, ↓ev_calls_2_4_0, ↓ev_bipush_14, ↓ev_callv_3_0_2, ↓ev_callv_3_1_2, ↓ev_callv_3_2_2, ↓ev_callv_3_3_2, ↓ev_callv_3_4_2, ↓ev_lstore_n_1, ↓ev_iconst_1, ↓ev_istore_n_3, ↓ev_iload_n_3, ↓ev_bipush_64, ↓ev_icmp_ge, ↓ev_istore_4, ↓ev_iload_4, ↓ev_iconst_4, ↓ev_lload_n_1, ↓ev_calls_2_0_1, ↓ev_calls_2_1_1, ↓ev_calls_2_2_1, ↓ev_calls_2_3_1, ↓ev_calls_2_4_1, ↓ev_if_eq, ↓ev_callv_3_0_1, ↓ev_callv_3_1_1, ↓ev_callv_3_2_1, ↓ev_callv_3_3_1, ↓ev_callv_3_4_1, ↓ev_callv_3_5_1, ↓ev_dup2, ↓ev_iald_m1, ↓ev_iald_m2, ↓ev_iald_m3, ↓ev_iald_m4, ↓ev_iald_m5, ↓ev_iald_m6, ↓ev_iadd, ↓ev_iast_m1, ↓ev_iast_m2, ↓ev_iast_m3, ↓ev_iast_m4, ↓ev_iast_m5, ↓ev_iast_m6, ↓ev_iinc_4_1, ↓ev_goto, ↓ev_iinc_3_1, ↓ev_ret, Nat.reduceAdd]
      try simp (disch := omega) only [pk_mul, nI_add, n_lt0, n_le0, n_eq0, n_ge0, n_gt0, n_lt, n_le, n_eq, n_in, n_div, n_rem, n_rem2, n_m1, nI_clamp, bz_0, bz_1, tI_0, tI_bz, n4, n16, eq_self, Nat.reduceLT, Nat.reduceLeDiff, Nat.reduceEqDiff, Nat.reduceAdd, Nat.reduceMul, Nat.reduceDiv, Nat.reduceMod, Nat.le_refl, decide_eq_false_iff_not, Classical.not_not, true_and, and_true, false_and, and_false, not_true_eq_false, not_false_eq_true, forall_const, true_implies, false_implies, implies_true, ne_eq]
      refine ⟨fun _ => ?_, fun c => absurd (show 4 ≤ k2 by omega) c⟩
      refine ih (k + 1) g _ (by omega) (by omega) (fun c h1 h2 => ?_)
      rw [hg c h1 h2, fb_sm_succ, show k2 = 4 by omega]
      rfl
    | succ f2 ih2 =>
      intro k2 g hk2 hg
      refine EX.go (Kd_mono _ _) [false, true, false, true, false, false, false, false] 40 3 ?_
      dsimp only [wpc_s, wsl_t, wsl_f, gD_0, gD_s, ↓denB_n, pI_s, pG_s, pU_n, cb_X0_countCells_0, cb_X0_countCells_1, cb_X0_countCells_2, cb_X0_countCells_3, cb_X0_countCells_4, cb_X0_countCells_5, cb_X0_countCells_6, cb_X0_countCells_7, ↓ev_aload_n_0, ↓ev_getf_0_7, ↓ev_iconst_0, ↓ev_calls_2_0_0, ↓ev_calls_2_1_0, ↓ev_calls_2_2_0, ↓ev_calls_2_3_0, ↓ev_calls_2_4_0, ↓ev_bipush_14, ↓ev_callv_3_0_2, ↓ev_callv_3_1_2, ↓ev_callv_3_2_2, ↓ev_callv_3_3_2, ↓ev_callv_3_4_2, ↓ev_lstore_n_1, ↓ev_iconst_1, ↓ev_istore_n_3, ↓ev_iload_n_3, ↓ev_bipush_64, ↓ev_icmp_ge, ↓ev_istore_4, ↓ev_iload_4, ↓ev_iconst_4, ↓ev_lload_n_1, ↓ev_calls_2_0_1, ↓ev_calls_2_1_1, ↓ev_calls_2_2_1, ↓ev_calls_2_3_1, ↓ev_calls_2_4_1, ↓ev_if_eq, ↓ev_callv_3_0_1, ↓ev_callv_3_1_1, ↓ev_callv_3_2_1, ↓ev_callv_3_3_1, ↓ev_callv_3_4_1, ↓ev_callv_3_5_1, ↓ev_dup2, ↓ev_iald_m1, ↓ev_iald_m2, ↓ev_iald_m3, ↓ev_iald_m4, ↓ev_iald_m5, ↓ev_iald_m6, ↓ev_iadd, ↓ev_iast_m1, ↓ev_iast_m2, ↓ev_iast_m3, ↓ev_iast_m4, ↓ev_iast_m5, ↓ev_iast_m6, ↓ev_iinc_4_1, ↓ev_goto, ↓ev_iinc_3_1, ↓ev_ret, Nat.reduceAdd]
      try simp (disch := omega) only [pk_mul, nI_add, n_lt0, n_le0, n_eq0, n_ge0, n_gt0, n_lt, n_le, n_eq, n_in, n_div, n_rem, n_rem2, n_m1, nI_clamp, bz_0, bz_1, tI_0, tI_bz, n4, n16, eq_self, Nat.reduceLT, Nat.reduceLeDiff, Nat.reduceEqDiff, Nat.reduceAdd, Nat.reduceMul, Nat.reduceDiv, Nat.reduceMod, Nat.le_refl, decide_eq_false_iff_not, Classical.not_not, true_and, and_true, false_and, and_false, not_true_eq_false, not_false_eq_true, forall_const, true_implies, false_implies, implies_true, ne_eq]
      refine ⟨fun c => absurd c (by omega), fun _ => ?_⟩
      refine k_isIn (by omega) ?_
      try simp (disch := omega) only [pk_mul, nI_add, n_lt0, n_le0, n_eq0, n_ge0, n_gt0, n_lt, n_le, n_eq, n_in, n_div, n_rem, n_rem2, n_m1, nI_clamp, bz_0, bz_1, tI_0, tI_bz, n4, n16, eq_self, Nat.reduceLT, Nat.reduceLeDiff, Nat.reduceEqDiff, Nat.reduceAdd, Nat.reduceMul, Nat.reduceDiv, Nat.reduceMod, Nat.le_refl, decide_eq_false_iff_not, Classical.not_not, true_and, and_true, false_and, and_false, not_true_eq_false, not_false_eq_true, forall_const, true_implies, false_implies, implies_true, ne_eq]
      refine ⟨fun c => ?_, fun c => ?_⟩
      · refine ih (k + 1) g _ (by omega) (by omega) (fun e h1 h2 => ?_)
        rw [hg e h1 h2, fb_sm_succ, c]
        rfl
      · have hPk : dec (isT S 0 14 k) = true := by simpa using c
        refine k_dataAt (hC.pt6 g) (by omega) (by omega) ?_
        have hdl := dt_lt S k k2
        try simp (disch := omega) only [pk_mul, nI_add, n_lt0, n_le0, n_eq0, n_ge0, n_gt0, n_lt, n_le, n_eq, n_in, n_div, n_rem, n_rem2, n_m1, nI_clamp, bz_0, bz_1, tI_0, tI_bz, n4, n16, eq_self, Nat.reduceLT, Nat.reduceLeDiff, Nat.reduceEqDiff, Nat.reduceAdd, Nat.reduceMul, Nat.reduceDiv, Nat.reduceMod, Nat.le_refl, decide_eq_false_iff_not, Classical.not_not, true_and, and_true, false_and, and_false, not_true_eq_false, not_false_eq_true, forall_const, true_implies, false_implies, implies_true, ne_eq, hup_hpt, hpt_self]
        refine ⟨by omega, by omega, ih2 (k2 + 1) _ (by omega) (fun c h1 h2 => ?_)⟩
        rw [upd_icn hg c h1 h2, hPk]
        simp only [if_true, fb_sm_succ, Nat.add_assoc]
theorem k_countTrue {p : mH → Prop} (hC : CR h i S) (hp : ∀ h', Oi i h h' → CR h' i S → (∀ c, 1 ≤ c → c < 64 → h' (.inl (i, 6)) c = nI (tru S c)) → p h') : mU (Kd sL (d + 4)) 22 [.inr (.inr (.inl (i, 0)))] h p := by
  refine ke_X0_countTrue ?_
  refine EX.go (Kd_mono _ _) [false, true, false, true, false, false, false] 40 0 ?_
  dsimp only [wpc_s, wsl_t, wsl_f, gD_0, gD_s, ↓denB_n, pI_s, pG_s, pU_n, cb_X0_countTrue_0, cb_X0_countTrue_1, cb_X0_countTrue_2, cb_X0_countTrue_3, cb_X0_countTrue_4, cb_X0_countTrue_5, cb_X0_countTrue_6, ↓ev_aload_n_0, ↓ev_callv_1_0_0, ↓ev_callv_1_1_0, ↓ev_callv_1_2_0, ↓ev_callv_1_3_0, ↓ev_callv_1_4_0, ↓ev_iconst_0, ↓ev_istore_n_1, ↓ev_iload_n_1, ↓ev_bipush_14, ↓ev_icmp_ge, ↓ev_istore_n_2, ↓ev_iload_n_2, ↓ev_iconst_4, ↓ev_getf_0_7, ↓ev_callv_3_0_1, ↓ev_callv_3_1_1, ↓ev_callv_3_2_1, ↓ev_callv_3_3_1, ↓ev_callv_3_4_1, ↓ev_callv_3_5_1, ↓ev_dup2, ↓ev_iald_m1, ↓ev_iald_m2, ↓ev_iald_m3, ↓ev_iald_m4, ↓ev_iald_m5, ↓ev_iald_m6, ↓ev_iconst_1, ↓ev_iadd, ↓ev_iast_m1, ↓ev_iast_m2, ↓ev_iast_m3, ↓ev_iast_m4, ↓ev_iast_m5, ↓ev_iast_m6, ↓ev_iinc_2_1, ↓ev_goto, ↓ev_iinc_1_1, ↓ev_ret, Nat.reduceAdd]
  refine k_countCells hC (fun h1 hO hC hf => ?_)
  suffices H : ∀ (f k : Nat) (g : Nat → Int32) (o : Option mV), k + f = 14 → (∀ c, 1 ≤ c → c < 64 → g c = nI (nmc S c + fb_sm (fun dd => rf4 S dd c) k)) → EX (Kd sL (d + 3)) sL md_X0_countTrue (pU p) 1 [some (.inr (.inr (.inl (i, 0)))), some (.inl (nI k)), o] [] (hpt h1 (.inl (i, 6)) g) by
    have := H 14 0 (h1 (.inl (i, 6))) none (by omega) (fun c e1 e2 => by rw [hf c e1 e2]; simp [fb_sm])
    rwa [hpt_eta] at this
  intro f
  induction f with
  | zero =>
    intro k g o hk hg
    refine EX.go (Kd_mono _ _) [false, true, false, true, false, false, false] 40 1 ?_
    dsimp only [wpc_s, wsl_t, wsl_f, gD_0, gD_s, ↓denB_n, pI_s, pG_s, pU_n, cb_X0_countTrue_0, cb_X0_countTrue_1, cb_X0_countTrue_2, cb_X0_countTrue_3, cb_X0_countTrue_4, cb_X0_countTrue_5, cb_X0_countTrue_6, ↓ev_aload_n_0, ↓ev_callv_1_0_0, ↓ev_callv_1_1_0, ↓ev_callv_1_2_0, ↓ev_callv_1_3_0, ↓ev_callv_1_4_0, ↓ev_iconst_0, ↓ev_istore_n_1, ↓ev_iload_n_1, ↓ev_bipush_14, ↓ev_icmp_ge, ↓ev_istore_n_2, ↓ev_iload_n_2, ↓ev_iconst_4, ↓ev_getf_0_7, ↓ev_callv_3_0_1, ↓ev_callv_3_1_1, ↓ev_callv_3_2_1, ↓ev_callv_3_3_1, ↓ev_callv_3_4_1, ↓ev_callv_3_5_1, ↓ev_dup2, ↓ev_iald_m1, ↓ev_iald_m2, ↓ev_iald_m3, ↓ev_iald_m4, ↓ev_iald_m5, ↓ev_iald_m6, ↓ev_iconst_1, ↓ev_iadd, ↓ev_iast_m1, ↓ev_iast_m2, ↓ev_iast_m3, ↓ev_iast_m4, ↓ev_iast_m5, ↓ev_iast_m6, ↓ev_iinc_2_1, ↓ev_goto, ↓ev_iinc_1_1, ↓ev_ret, Nat.reduceAdd]
    try simp (disch := omega) only [pk_mul, nI_add, n_lt0, n_le0, n_eq0, n_ge0, n_gt0, n_lt, n_le, n_eq, n_in, n_div, n_rem, n_rem2, n_m1, nI_clamp, bz_0, bz_1, tI_0, tI_bz, n4, n16, eq_self, Nat.reduceLT, Nat.reduceLeDiff, Nat.reduceEqDiff, Nat.reduceAdd, Nat.reduceMul, Nat.reduceDiv, Nat.reduceMod, Nat.le_refl, decide_eq_false_iff_not, Classical.not_not, true_and, and_true, false_and, and_false, not_true_eq_false, not_false_eq_true, forall_const, true_implies, false_implies, implies_true, ne_eq]
    refine ⟨fun _ => ?_, fun c => absurd (show 14 ≤ k by omega) c⟩
    rw [hup_hpt]
    refine hp _ (hO.tr Oi.pt) (hC.pt6 _) (fun c e1 e2 => ?_)
    rw [hpt_self, pk_un (by omega), hg c e1 e2, show k = 14 by omega]
    unfold tru rfc
    rw [Nat.add_comm]
  | succ f ih =>
    intro k g o hk hg
    refine EX.go (Kd_mono _ _) [false, true, false, true, false, false, false] 40 1 ?_
    dsimp only [wpc_s, wsl_t, wsl_f, gD_0, gD_s, ↓denB_n, pI_s, pG_s, pU_n, cb_X0_countTrue_0, cb_X0_countTrue_1, cb_X0_countTrue_2, cb_X0_countTrue_3, cb_X0_countTrue_4, cb_X0_countTrue_5, cb_X0_countTrue_6, ↓ev_aload_n_0, ↓ev_callv_1_0_0, ↓ev_callv_1_1_0, ↓ev_callv_1_2_0, ↓ev_callv_1_3_0, ↓ev_callv_1_4_0, ↓ev_iconst_0, ↓ev_istore_n_1, ↓ev_iload_n_1, ↓ev_bipush_14, ↓ev_icmp_ge, ↓ev_istore_n_2, ↓ev_iload_n_2, ↓ev_iconst_4, ↓ev_getf_0_7, ↓ev_callv_3_0_1, ↓ev_callv_3_1_1, ↓ev_callv_3_2_1, ↓ev_callv_3_3_1, ↓ev_callv_3_4_1, ↓ev_callv_3_5_1, ↓ev_dup2, ↓ev_iald_m1, ↓ev_iald_m2, ↓ev_iald_m3, ↓ev_iald_m4, ↓ev_iald_m5, ↓ev_iald_m6, ↓ev_iconst_1, ↓ev_iadd, ↓ev_iast_m1, ↓ev_iast_m2, ↓ev_iast_m3, ↓ev_iast_m4, ↓ev_iast_m5, ↓ev_iast_m6, ↓ev_iinc_2_1, ↓ev_goto, ↓ev_iinc_1_1, ↓ev_ret, Nat.reduceAdd]
    try simp (disch := omega) only [pk_mul, nI_add, n_lt0, n_le0, n_eq0, n_ge0, n_gt0, n_lt, n_le, n_eq, n_in, n_div, n_rem, n_rem2, n_m1, nI_clamp, bz_0, bz_1, tI_0, tI_bz, n4, n16, eq_self, Nat.reduceLT, Nat.reduceLeDiff, Nat.reduceEqDiff, Nat.reduceAdd, Nat.reduceMul, Nat.reduceDiv, Nat.reduceMod, Nat.le_refl, decide_eq_false_iff_not, Classical.not_not, true_and, and_true, false_and, and_false, not_true_eq_false, not_false_eq_true, forall_const, true_implies, false_implies, implies_true, ne_eq]
    refine ⟨fun c => absurd c (by omega), fun _ => ?_⟩
    suffices H2 : ∀ (f2 k2 : Nat) (g : Nat → Int32), k2 + f2 = 4 → (∀ c, 1 ≤ c → c < 64 → g c = nI (nmc S c + fb_sm (fun dd => rf4 S dd c) k + fb_sm (fun j => icn (tb S k j) c) k2)) → EX (Kd sL (d + 3)) sL md_X0_countTrue (pU p) 3 [some (.inr (.inr (.inl (i, 0)))), some (.inl (nI k)), some (.inl (nI k2))] [] (hpt h1 (.inl (i, 6)) g) by
      refine H2 4 0 g rfl (fun c e1 e2 => ?_)
      rw [hg c e1 e2]
      simp [fb_sm]
    intro f2
    induction f2 with
    | zero =>
      intro k2 g hk2 hg
      refine EX.go (Kd_mono _ _) [false, true, false, true, false, false, false] 40 3 ?_
      dsimp only [wpc_s, wsl_t, wsl_f, gD_0, gD_s, ↓denB_n, pI_s, pG_s, pU_n, cb_X0_countTrue_0, cb_X0_countTrue_1, cb_X0_countTrue_2, cb_X0_countTrue_3, cb_X0_countTrue_4, cb_X0_countTrue_5, cb_X0_countTrue_6, ↓ev_aload_n_0, ↓ev_callv_1_0_0, ↓ev_callv_1_1_0, ↓ev_callv_1_2_0, ↓ev_callv_1_3_0, ↓ev_callv_1_4_0, ↓ev_iconst_0, ↓ev_istore_n_1, ↓ev_iload_n_1, ↓ev_bipush_14, ↓ev_icmp_ge, ↓ev_istore_n_2, ↓ev_iload_n_2, ↓ev_iconst_4, ↓ev_getf_0_7, ↓ev_callv_3_0_1, ↓ev_callv_3_1_1, ↓ev_callv_3_2_1, ↓ev_callv_3_3_1, ↓ev_callv_3_4_1, ↓ev_callv_3_5_1, ↓ev_dup2, ↓ev_iald_m1, ↓ev_iald_m2, ↓ev_iald_m3, ↓ev_iald_m4, ↓ev_iald_m5, ↓ev_iald_m6, ↓ev_iconst_1, ↓ev_iadd, ↓ev_iast_m1, ↓ev_iast_m2, ↓ev_iast_m3, ↓ev_iast_m4, ↓ev_iast_m5, ↓ev_iast_m6, ↓ev_iinc_2_1, ↓ev_goto, ↓ev_iinc_1_1, ↓ev_ret, Nat.reduceAdd]
      try simp (disch := omega) only [pk_mul, nI_add, n_lt0, n_le0, n_eq0, n_ge0, n_gt0, n_lt, n_le, n_eq, n_in, n_div, n_rem, n_rem2, n_m1, nI_clamp, bz_0, bz_1, tI_0, tI_bz, n4, n16, eq_self, Nat.reduceLT, Nat.reduceLeDiff, Nat.reduceEqDiff, Nat.reduceAdd, Nat.reduceMul, Nat.reduceDiv, Nat.reduceMod, Nat.le_refl, decide_eq_false_iff_not, Classical.not_not, true_and, and_true, false_and, and_false, not_true_eq_false, not_false_eq_true, forall_const, true_implies, false_implies, implies_true, ne_eq]
      refine ⟨fun _ => ?_, fun c => absurd (show 4 ≤ k2 by omega) c⟩
      refine ih (k + 1) g _ (by omega) (fun c e1 e2 => ?_)
      rw [hg c e1 e2, fb_sm_succ, show k2 = 4 by omega, Nat.add_assoc]
      rfl
    | succ f2 ih2 =>
      intro k2 g hk2 hg
      refine EX.go (Kd_mono _ _) [false, true, false, true, false, false, false] 40 3 ?_
      dsimp only [wpc_s, wsl_t, wsl_f, gD_0, gD_s, ↓denB_n, pI_s, pG_s, pU_n, cb_X0_countTrue_0, cb_X0_countTrue_1, cb_X0_countTrue_2, cb_X0_countTrue_3, cb_X0_countTrue_4, cb_X0_countTrue_5, cb_X0_countTrue_6, ↓ev_aload_n_0, ↓ev_callv_1_0_0, ↓ev_callv_1_1_0, ↓ev_callv_1_2_0, ↓ev_callv_1_3_0, ↓ev_callv_1_4_0, ↓ev_iconst_0, ↓ev_istore_n_1, ↓ev_iload_n_1, ↓ev_bipush_14, ↓ev_icmp_ge, ↓ev_istore_n_2, ↓ev_iload_n_2, ↓ev_iconst_4, ↓ev_getf_0_7, ↓ev_callv_3_0_1, ↓ev_callv_3_1_1, ↓ev_callv_3_2_1, ↓ev_callv_3_3_1, ↓ev_callv_3_4_1, ↓ev_callv_3_5_1, ↓ev_dup2, ↓ev_iald_m1, ↓ev_iald_m2, ↓ev_iald_m3, ↓ev_iald_m4, ↓ev_iald_m5, ↓ev_iald_m6, ↓ev_iconst_1, ↓ev_iadd, ↓ev_iast_m1, ↓ev_iast_m2, ↓ev_iast_m3, ↓ev_iast_m4, ↓ev_iast_m5, ↓ev_iast_m6, ↓ev_iinc_2_1, ↓ev_goto, ↓ev_iinc_1_1, ↓ev_ret, Nat.reduceAdd]
      try simp (disch := omega) only [pk_mul, nI_add, n_lt0, n_le0, n_eq0, n_ge0, n_gt0, n_lt, n_le, n_eq, n_in, n_div, n_rem, n_rem2, n_m1, nI_clamp, bz_0, bz_1, tI_0, tI_bz, n4, n16, eq_self, Nat.reduceLT, Nat.reduceLeDiff, Nat.reduceEqDiff, Nat.reduceAdd, Nat.reduceMul, Nat.reduceDiv, Nat.reduceMod, Nat.le_refl, decide_eq_false_iff_not, Classical.not_not, true_and, and_true, false_and, and_false, not_true_eq_false, not_false_eq_true, forall_const, true_implies, false_implies, implies_true, ne_eq]
      refine ⟨fun c => absurd c (by omega), fun _ => ?_⟩
      refine k_tableAt (hC.pt6 g) (by omega) (by omega) ?_
      have hdl := tb_lt S k k2
      try simp (disch := omega) only [pk_mul, nI_add, n_lt0, n_le0, n_eq0, n_ge0, n_gt0, n_lt, n_le, n_eq, n_in, n_div, n_rem, n_rem2, n_m1, nI_clamp, bz_0, bz_1, tI_0, tI_bz, n4, n16, eq_self, Nat.reduceLT, Nat.reduceLeDiff, Nat.reduceEqDiff, Nat.reduceAdd, Nat.reduceMul, Nat.reduceDiv, Nat.reduceMod, Nat.le_refl, decide_eq_false_iff_not, Classical.not_not, true_and, and_true, false_and, and_false, not_true_eq_false, not_false_eq_true, forall_const, true_implies, false_implies, implies_true, ne_eq, hup_hpt, hpt_self]
      refine ⟨by omega, by omega, ih2 (k2 + 1) _ (by omega) (fun c e1 e2 => ?_)⟩
      rw [upd_icn hg c e1 e2]
      simp only [fb_sm_succ, Nat.add_assoc]
end CNT
