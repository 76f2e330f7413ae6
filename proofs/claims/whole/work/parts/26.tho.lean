/-! ===== deeds, abstractly: a state, how many writes were done, 0 going on, 1 torn, 2 full ===== -/
abbrev Sg : Type := St × Nat × Nat
def gt (L : Nat) (f : St → St) (σ : Sg) : Sg := if σ.2.2 = 0 then (if L ≤ σ.2.1 then (σ.1, σ.2.1, 1) else (f σ.1, σ.2.1 + 1, 0)) else σ
def nwf (S : St) : Nat → Nat → Nat
  | 0, c => c
  | f + 1, c => if S c = 0 then c else nwf S f (c + 1)
/-- the least cluster with count 0; 64: none -/
def nw (S : St) : Nat := nwf S 63 1
theorem nwf_le (S : St) : ∀ f c, c ≤ nwf S f c ∧ nwf S f c ≤ c + f
  | 0, c => ⟨Nat.le_refl _, Nat.le_refl _⟩
  | f + 1, c => by
    unfold nwf
    split
    · omega
    · have := nwf_le S f (c + 1)
      omega
theorem nw_le (S : St) : 1 ≤ nw S ∧ nw S ≤ 64 := by
  have := nwf_le S 63 1
  unfold nw
  omega
/-- a new cluster: its number, 0: none (full now, or halted before) -/
def ncl (σ : Sg) : Nat × Sg := if σ.2.2 = 0 then (if nw σ.1 = 64 then (0, (σ.1, σ.2.1, 2)) else (nw σ.1, σ)) else (0, σ)
theorem ncl_lt (σ : Sg) : (ncl σ).1 < 64 := by
  have := nw_le σ.1
  unfold ncl
  split
  · split
    · exact (show 0 < 64 by decide)
    · show nw σ.1 < 64; omega
  · exact (show 0 < 64 by decide)
def addc (L c : Nat) (v : Int32) (σ : Sg) : Sg := if c = 0 then σ else gt L (fun S => upd S c (S c + v)) σ
def cp4 (S : St) (a b : Nat) : St := fun j => if 64 + 4 * b ≤ j ∧ j < 64 + 4 * b + 4 then S (64 + 4 * a + (j - (64 + 4 * b))) else S j
def incF (L old : Nat) : Nat → Sg → Sg
  | 0, σ => σ
  | k + 1, σ => addc L (dt (incF L old k σ).1 old k) (nI 1) (incF L old k σ)
def own2 (L l i old n : Nat) (σ : Sg) : Sg := addc L old (-1) (gt L (fun S => upd S (327 + 4 * l + i) (nI n)) (incF L old 4 (gt L (fun S => cp4 S old n) (gt L (fun S => upd S n (nI 1)) σ))))
def own (L l i : Nat) (σ : Sg) : Nat × Sg := if ¬ tb σ.1 l i = 0 ∧ σ.1 (tb σ.1 l i) ≤ nI 1 then (tb σ.1 l i, σ) else ((ncl σ).1, own2 L l i (tb σ.1 l i) (ncl σ).1 (ncl σ).2)
def filF (S : St) (l b m : Nat) : Nat → St
  | 0 => S
  | k + 1 => upd (filF S l b m k) (64 + (4 * m + k)) (rdf (filF S l b m k) 6 (nI l) (4 * b + k))
def wp2 (L l b t old m : Nat) (σ : Sg) : Sg := addc L old (-1) (gt L (fun S => upd S (64 + (4 * t + b % 4)) (nI m)) (gt L (fun S => filF S l b m 4) (gt L (fun S => upd S m (nI 1)) σ)))
def wp1 (L l p : Nat) (v : Int32) (t : Nat) (σ : Sg) : Sg := if dt σ.1 t (p / 4 % 4) = 0 ∨ ¬ σ.1 (dt σ.1 t (p / 4 % 4)) ≤ nI 1
  then gt L (fun S => upd S (64 + (4 * (ncl σ).1 + p % 4)) v) (wp2 L l (p / 4) t (dt σ.1 t (p / 4 % 4)) (ncl σ).1 (ncl σ).2)
  else gt L (fun S => upd S (64 + (4 * dt σ.1 t (p / 4 % 4) + p % 4)) v) σ
def wpl (L l p : Nat) (v : Int32) (σ : Sg) : Sg := wp1 L l p v (own L l (p / 4 / 4) σ).1 (own L l (p / 4 / 4) σ).2
/-! the class's side -/
def hk (k : Nat) : Int32 := if k = 0 then 0 else if k = 1 then -1005 else -1002
def TR (h : mH) (L : Nat) (σ : Sg) : Prop := CR h 2 σ.1 ∧ h (.inr 2) 5 = nI L ∧ h (.inr 2) 6 = nI σ.2.1 ∧ h (.inr 2) 7 = hk σ.2.2 ∧ σ.2.1 ≤ L ∧ L ≤ 1000000 ∧ σ.2.2 ≤ 2
/-- only the image thought of, how many were done, the halt -/
def OT (h h' : mH) : Prop := (∀ r, (∀ q, r ≠ .inl (2, q)) → r ≠ .inr 2 → h' r = h r) ∧ ∀ j, j < 6 → h' (.inr 2) j = h (.inr 2) j
theorem OT.rf {h : mH} : OT h h := ⟨fun _ _ _ => rfl, fun _ _ => rfl⟩
theorem OT.tr {h h1 h2 : mH} (a : OT h h1) (b : OT h1 h2) : OT h h2 := ⟨fun r p q => (b.1 r p q).trans (a.1 r p q), fun j hj => (b.2 j hj).trans (a.2 j hj)⟩
theorem OT.oi {h h' : mH} (a : Oi 2 h h') : OT h h' := ⟨fun r p _ => a r p, fun j _ => by rw [a.oth]⟩
theorem OT.up {h : mH} {k : Nat} {v : Int32} (hk : 6 ≤ k) : OT h (hup h (.inr 2) k v) := ⟨fun r _ q => by funext j; exact hup_other q j, fun j hj => by simp [hup]; omega⟩
theorem CR.up2 {h : mH} {i : Fin 3} {S : St} (hC : CR h i S) (n k : Nat) (v : Int32) : CR (hup h (.inr n) k v) i S := by
  obtain ⟨h1, h2, h3, h4, h5, h6, h7, h8⟩ := hC
  have e : ∀ q, hup h (.inr n) k v (.inl (i, q)) = h (.inl (i, q)) := fun q => by funext j; exact hup_other (by simp) j
  refine ⟨?_, ?_, ?_, ?_, ?_, ?_, h7, ?_⟩
  all_goals (rw [e]; assumption)
theorem lo_same {S : St} {j : Nat} {v : Int32} (hj : j < 320) : mn (upd S j v) = mn S ∧ (∀ x, prs (upd S j v) x = prs S x) ∧ (∀ x k, tb (upd S j v) x k = tb S x k) ∧ (∀ l, bk (upd S j v) l = bk S l) ∧ (∀ s, sn (upd S j v) s = sn S s) ∧ upd S j v 399 = S 399 := by
  have e1 : mn (upd S j v) = mn S := by unfold mn; rw [pk_un (by omega)]
  have e2 : ∀ x, prs (upd S j v) x = prs S x := fun x => by unfold prs; rw [e1, pk_un (by omega)]
  refine ⟨e1, e2, fun x k => ?_, fun l => ?_, fun s => ?_, pk_un (by omega)⟩
  · unfold tb; rw [e2, pk_un (by omega)]
  · unfold bk; rw [e1, pk_un (by omega)]
  · unfold sn; rw [pk_un (by omega), pk_un (by omega)]
theorem hup_same {h : mH} {r : mRef} {k : Nat} {v : Int32} : hup h r k v r k = v := by simp [hup]
theorem hup_idx {h : mH} {r : mRef} {k k' : Nat} {v : Int32} (hn : k' ≠ k) : hup h r k v r k' = h r k' := by simp [hup, hn]
theorem CR.cnt1 {h : mH} {i : Fin 3} {S : St} (hC : CR h i S) {c : Nat} (hc : c < 64) (v : Int32) : CR (hup h (.inl (i, 2)) c v) i (upd S c v) := by
  obtain ⟨e1, e2, e3, e5, e6, e7⟩ := lo_same (S := S) (v := v) (show c < 320 by omega)
  obtain ⟨h1, h2, h3, h4, h5, h6, h7, h8⟩ := hC
  refine ⟨fun j hj => ?_, fun j hj => ?_, fun x k hx hk => ?_, fun l hl => ?_, fun s hs => ?_, ?_, ?_, ?_⟩
  · rw [hup_other (by simp), h1 j hj, pk_un (by omega)]
  · by_cases q : j = c
    · subst q; rw [hup_same, pk_us]
    · rw [hup_idx q, h2 j hj, pk_un q]
  · rw [hup_other (by simp), h3 x k hx hk, e3]
  · rw [hup_other (by simp), h4 l hl, e5]
  · rw [hup_other (by simp), h5 s hs, e6]
  · rw [hup_other (by simp), h6, e1]
  · rw [e1]; exact h7
  · rw [hup_other (by simp), h8, e7]
theorem CR.cel1 {h : mH} {i : Fin 3} {S : St} (hC : CR h i S) {j : Nat} (hc : j < 256) (v : Int32) : CR (hup h (.inl (i, 1)) j v) i (upd S (64 + j) v) := by
  obtain ⟨e1, e2, e3, e5, e6, e7⟩ := lo_same (S := S) (v := v) (show 64 + j < 320 by omega)
  obtain ⟨h1, h2, h3, h4, h5, h6, h7, h8⟩ := hC
  refine ⟨fun j' hj => ?_, fun j' hj => ?_, fun x k hx hk => ?_, fun l hl => ?_, fun s hs => ?_, ?_, ?_, ?_⟩
  · by_cases q : j' = j
    · subst q; rw [hup_same, pk_us]
    · rw [hup_idx q, h1 j' hj, pk_un (by omega)]
  · rw [hup_other (by simp), h2 j' hj, pk_un (by omega)]
  · rw [hup_other (by simp), h3 x k hx hk, e3]
  · rw [hup_other (by simp), h4 l hl, e5]
  · rw [hup_other (by simp), h5 s hs, e6]
  · rw [hup_other (by simp), h6, e1]
  · rw [e1]; exact h7
  · rw [hup_other (by simp), h8, e7]
theorem CR.dir1 {h : mH} {i : Fin 3} {S : St} (hC : CR h i S) {l k n : Nat} (hl : l < mn S) (hk : k < 4) (hn : n < 64) : CR (hup h (.inl (i, 3)) (4 * l + k) (nI n)) i (upd S (327 + 4 * l + k) (nI n)) := by
  obtain ⟨h1, h2, h3, h4, h5, h6, h7, h8⟩ := hC
  have e1 : mn (upd S (327 + 4 * l + k) (nI n)) = mn S := by unfold mn; rw [pk_un (by omega)]
  have e2 : ∀ x, prs (upd S (327 + 4 * l + k) (nI n)) x = prs S x := fun x => by
    unfold prs
    rw [e1]
    by_cases q : x < 6
    · rw [if_pos q, if_pos q]
    · rw [if_neg q, if_neg q, pk_un (by omega)]
  refine ⟨fun j hj => ?_, fun j hj => ?_, fun x k' hx hk' => ?_, fun l' hl' => ?_, fun s hs => ?_, ?_, ?_, ?_⟩
  · rw [hup_other (by simp), h1 j hj, pk_un (by omega)]
  · rw [hup_other (by simp), h2 j hj, pk_un (by omega)]
  · unfold tb
    rw [e2]
    by_cases q : x = l ∧ k' = k
    · obtain ⟨rfl, rfl⟩ := q
      have : prs S x = true := by unfold prs; rw [if_pos (by omega)]; simpa using hl
      rw [hup_same, this, if_pos rfl, pk_us, cl_n hn]
    · rw [hup_idx (by omega), h3 x k' hx hk', pk_un (by omega)]
      rfl
  · rw [hup_other (by simp), h4 l' hl']; unfold bk; rw [e1, pk_un (by omega)]
  · rw [hup_other (by simp), h5 s hs]; unfold sn; rw [pk_un (by omega), pk_un (by omega)]
  · rw [hup_other (by simp), h6, e1]
  · rw [e1]; exact h7
  · rw [hup_other (by simp), h8, pk_un (by omega)]
theorem hk_0 {k : Nat} (h : k ≤ 2) : (hk k = 0) = (k = 0) := by
  apply propext
  rcases (show k = 0 ∨ k = 1 ∨ k = 2 by omega) with rfl | rfl | rfl <;> decide
theorem hk_2 {k : Nat} (h : k ≤ 2) : (hk k = -1002) = (k = 2) := by
  apply propext
  rcases (show k = 0 ∨ k = 1 ∨ k = 2 by omega) with rfl | rfl | rfl <;> decide
theorem hk_1 {k : Nat} (h : k ≤ 2) : (hk k = -1005) = (k = 1) := by
  apply propext
  rcases (show k = 0 ∨ k = 1 ∨ k = 2 by omega) with rfl | rfl | rfl <;> decide
section THO
variable {sL d L : Nat} {h : mH} {σ : Sg}
theorem k_step {p : Int32 → mH → Prop} (hT : TR h L σ) (h0 : ∀ h', OT h h' → TR h' L (gt L (fun S => S) σ) → ¬ (σ.2.2 = 0 ∧ σ.2.1 < L) → p (nI 0) h') (h1 : ∀ h', OT h h' → σ.2.2 = 0 → σ.2.1 < L → TR h' L (σ.1, σ.2.1 + 1, 0) → p (nI 1) h') : mI (Kd sL (d + 1)) 36 [.inr (.inr (.inr 2))] h p := by
  refine ke_X2_step ?_
  refine EX.go (Kd_mono _ _) [false, false, false, false, false, false] 40 0 ?_
  dsimp only [wpc_s, wsl_t, wsl_f, gD_0, gD_s, ↓denB_n, pI_s, pG_s, pU_n, cb_X2_step_0, cb_X2_step_1, cb_X2_step_2, cb_X2_step_3, cb_X2_step_4, cb_X2_step_5, ↓ev_aload_n_0, ↓ev_getf_2_7, ↓ev_if_ne, ↓ev_getf_2_6, ↓ev_getf_2_5, ↓ev_icmp_lt, ↓ev_sipush_m1005, ↓ev_putf_2_7, ↓ev_if_eq, ↓ev_iconst_0, ↓ev_zret, ↓ev_dup, ↓ev_dupr, ↓ev_iconst_1, ↓ev_iadd, ↓ev_putf_2_6, Nat.reduceAdd]
  obtain ⟨hC, e5, e6, e7, hle, hL, hk3⟩ := hT
  have e7' : ∀ k v, hup h (.inr 2) k v (.inr 2) k = v := fun k v => hup_same
  rw [e7, e5, e6]
  try simp (disch := omega) only [pk_mul, nI_add, n_lt0, n_le0, n_eq0, n_ge0, n_gt0, n_lt, n_le, n_eq, n_in, n_div, n_rem, n_rem2, n_m1, nI_clamp, bz_0, bz_1, tI_0, tI_bz, n4, n16, eq_self, Nat.reduceLT, Nat.reduceLeDiff, Nat.reduceEqDiff, Nat.reduceAdd, Nat.reduceMul, Nat.reduceDiv, Nat.reduceMod, Nat.le_refl, decide_eq_false_iff_not, Classical.not_not, true_and, and_true, false_and, and_false, not_true_eq_false, not_false_eq_true, forall_const, true_implies, false_implies, implies_true, ne_eq, hk_0]
  refine ⟨fun c => ⟨fun c2 => absurd c2 c, fun _ => h0 h OT.rf ?_ (fun z => c z.1)⟩, fun c => ⟨fun c2 => ⟨fun _ => ?_, fun c3 => absurd c c3⟩, fun c2 => ?_⟩⟩
  · unfold gt
    rw [if_neg c]
    exact ⟨hC, e5, e6, e7, hle, hL, hk3⟩
  · refine h1 _ (OT.up (by decide)) c c2 ⟨hC.up2 _ _ _, ?_, ?_, ?_, (show σ.2.1 + 1 ≤ L by omega), hL, (show 0 ≤ 2 by decide)⟩
    · rw [hup_idx (by decide), e5]
    · rw [hup_same]
    · rw [hup_idx (by decide), e7, c]
  · rw [hup_same]
    refine ⟨fun c3 => absurd c3 (by decide), fun _ => h0 _ (OT.up (by decide)) ?_ (fun z => c2 z.2)⟩
    unfold gt
    rw [if_pos c, if_pos (by omega)]
    refine ⟨hC.up2 _ _ _, ?_, ?_, ?_, hle, hL, (show 1 ≤ 2 by decide)⟩
    · rw [hup_idx (by decide), e5]
    · rw [hup_idx (by decide), e6]
    · rw [hup_same]; rfl
theorem gt_no {f : St → St} (hn : ¬ (σ.2.2 = 0 ∧ σ.2.1 < L)) : gt L f σ = gt L (fun S => S) σ := by
  unfold gt
  by_cases c : σ.2.2 = 0
  · rw [if_pos c, if_pos c, if_pos (by omega), if_pos (by omega)]
  · rw [if_neg c, if_neg c]
theorem gt_yes {f : St → St} (h0 : σ.2.2 = 0) (h1 : σ.2.1 < L) : gt L f σ = (f σ.1, σ.2.1 + 1, 0) := by
  unfold gt
  rw [if_pos h0, if_neg (by omega)]
theorem k_addToCount {c : Nat} {v : Int32} {p : mH → Prop} (hT : TR h L σ) (hc : c < 64) (hp : ∀ h', OT h h' → TR h' L (addc L c v σ) → p h') : mU (Kd sL (d + 2)) 37 [.inr (.inr (.inr 2)), .inl (nI c), .inl v] h p := by
  refine ke_X2_addToCount ?_
  refine EX.go (Kd_mono _ _) [false, false, false, false] 40 0 ?_
  dsimp only [wpc_s, wsl_t, wsl_f, gD_0, gD_s, ↓denB_n, pI_s, pG_s, pU_n, cb_X2_addToCount_0, cb_X2_addToCount_1, cb_X2_addToCount_2, cb_X2_addToCount_3, ↓ev_iload_n_1, ↓ev_if_eq, ↓ev_aload_n_0, ↓ev_callv_1_0_1, ↓ev_callv_1_1_1, ↓ev_callv_1_2_1, ↓ev_callv_1_3_1, ↓ev_callv_1_4_1, ↓ev_getf_2_0, ↓ev_getf_0_1, ↓ev_dup2, ↓ev_iald_m1, ↓ev_iald_m2, ↓ev_iald_m3, ↓ev_iald_m4, ↓ev_iald_m5, ↓ev_iald_m6, ↓ev_iald_o3, ↓ev_iload_n_2, ↓ev_iadd, ↓ev_iast_m1, ↓ev_iast_m2, ↓ev_iast_m3, ↓ev_iast_m4, ↓ev_iast_m5, ↓ev_iast_m6, ↓ev_iast_o3, ↓ev_ret, Nat.reduceAdd]
  try simp (disch := omega) only [pk_mul, nI_add, n_lt0, n_le0, n_eq0, n_ge0, n_gt0, n_lt, n_le, n_eq, n_in, n_div, n_rem, n_rem2, n_m1, nI_clamp, bz_0, bz_1, tI_0, tI_bz, n4, n16, eq_self, Nat.reduceLT, Nat.reduceLeDiff, Nat.reduceEqDiff, Nat.reduceAdd, Nat.reduceMul, Nat.reduceDiv, Nat.reduceMod, Nat.le_refl, decide_eq_false_iff_not, Classical.not_not, true_and, and_true, false_and, and_false, not_true_eq_false, not_false_eq_true, forall_const, true_implies, false_implies, implies_true, ne_eq]
  unfold addc at hp
  refine ⟨fun c0 => ?_, fun c0 => ?_⟩
  · rw [if_pos c0] at hp
    exact hp h OT.rf hT
  · rw [if_neg c0] at hp
    refine k_step hT (fun h1 o1 t1 hn => ?_) (fun h1 o1 z0 z1 t1 => ?_)
    · rw [gt_no hn] at hp
      exact ⟨fun _ => hp h1 o1 t1, fun c2 => absurd rfl c2⟩
    · rw [gt_yes z0 z1] at hp
      refine ⟨fun c2 => absurd c2 (by decide), fun _ => ?_⟩
      have e : h1 (.inl (2, 2)) c = σ.1 c := t1.1.2.1 c hc
      try simp (disch := omega) only [pk_mul, nI_add, n_lt0, n_le0, n_eq0, n_ge0, n_gt0, n_lt, n_le, n_eq, n_in, n_div, n_rem, n_rem2, n_m1, nI_clamp, bz_0, bz_1, tI_0, tI_bz, n4, n16, eq_self, Nat.reduceLT, Nat.reduceLeDiff, Nat.reduceEqDiff, Nat.reduceAdd, Nat.reduceMul, Nat.reduceDiv, Nat.reduceMod, Nat.le_refl, decide_eq_false_iff_not, Classical.not_not, true_and, and_true, false_and, and_false, not_true_eq_false, not_false_eq_true, forall_const, true_implies, false_implies, implies_true, ne_eq, e]
      exact ⟨hc, hc, hp _ (o1.tr (OT.oi Oi.up)) ⟨t1.1.cnt1 hc _, by rw [hup_other (by simp)]; exact t1.2.1, by rw [hup_other (by simp)]; exact t1.2.2.1, by rw [hup_other (by simp)]; exact t1.2.2.2.1, t1.2.2.2.2⟩⟩
theorem k_newCluster {p : Int32 → mH → Prop} (hT : TR h L σ) (hp : ∀ h', OT h h' → TR h' L (ncl σ).2 → p (nI (ncl σ).1) h') : mI (Kd sL (d + 1)) 38 [.inr (.inr (.inr 2))] h p := by
  refine ke_X2_newCluster ?_
  refine EX.go (Kd_mono _ _) [false, false, false, true, false, false, false, false] 40 0 ?_
  dsimp only [wpc_s, wsl_t, wsl_f, gD_0, gD_s, ↓denB_n, pI_s, pG_s, pU_n, cb_X2_newCluster_0, cb_X2_newCluster_1, cb_X2_newCluster_2, cb_X2_newCluster_3, cb_X2_newCluster_4, cb_X2_newCluster_5, cb_X2_newCluster_6, cb_X2_newCluster_7, ↓ev_aload_n_0, ↓ev_getf_2_7, ↓ev_if_eq, ↓ev_iconst_0, ↓ev_iret, ↓ev_iconst_1, ↓ev_istore_n_1, ↓ev_iload_n_1, ↓ev_bipush_64, ↓ev_icmp_ge, ↓ev_getf_2_0, ↓ev_getf_0_1, ↓ev_iald_m1, ↓ev_iald_m2, ↓ev_iald_m3, ↓ev_iald_m4, ↓ev_iald_m5, ↓ev_iald_m6, ↓ev_iald_o3, ↓ev_if_ne, ↓ev_iinc_1_1, ↓ev_goto, ↓ev_sipush_m1002, ↓ev_putf_2_7, Nat.reduceAdd]
  obtain ⟨hC, e5, e6, e7, hle, hL, hk3⟩ := id hT
  rw [e7]
  try simp (disch := omega) only [pk_mul, nI_add, n_lt0, n_le0, n_eq0, n_ge0, n_gt0, n_lt, n_le, n_eq, n_in, n_div, n_rem, n_rem2, n_m1, nI_clamp, bz_0, bz_1, tI_0, tI_bz, n4, n16, eq_self, Nat.reduceLT, Nat.reduceLeDiff, Nat.reduceEqDiff, Nat.reduceAdd, Nat.reduceMul, Nat.reduceDiv, Nat.reduceMod, Nat.le_refl, decide_eq_false_iff_not, Classical.not_not, true_and, and_true, false_and, and_false, not_true_eq_false, not_false_eq_true, forall_const, true_implies, false_implies, implies_true, ne_eq, hk_0]
  unfold ncl at hp
  refine ⟨fun c => ?_, fun c => ?_⟩
  · rw [if_pos c] at hp
    suffices H : ∀ (f k : Nat), k + f = 64 → 1 ≤ k → nw σ.1 = nwf σ.1 f k → EX (Kd sL d) sL md_X2_newCluster (pI p) 3 [some (.inr (.inr (.inr 2))), some (.inl (nI k))] [] h from H 63 1 rfl (Nat.le_refl 1) rfl
    intro f
    induction f with
    | zero =>
      intro k hk h1 hw
      refine EX.go (Kd_mono _ _) [false, false, false, true, false, false, false, false] 40 3 ?_
      dsimp only [wpc_s, wsl_t, wsl_f, gD_0, gD_s, ↓denB_n, pI_s, pG_s, pU_n, cb_X2_newCluster_0, cb_X2_newCluster_1, cb_X2_newCluster_2, cb_X2_newCluster_3, cb_X2_newCluster_4, cb_X2_newCluster_5, cb_X2_newCluster_6, cb_X2_newCluster_7, ↓ev_aload_n_0, ↓ev_getf_2_7, ↓ev_if_eq, ↓ev_iconst_0, ↓ev_iret, ↓ev_iconst_1, ↓ev_istore_n_1, ↓ev_iload_n_1, ↓ev_bipush_64, ↓ev_icmp_ge, ↓ev_getf_2_0, ↓ev_getf_0_1, ↓ev_iald_m1, ↓ev_iald_m2, ↓ev_iald_m3, ↓ev_iald_m4, ↓ev_iald_m5, ↓ev_iald_m6, ↓ev_iald_o3, ↓ev_if_ne, ↓ev_iinc_1_1, ↓ev_goto, ↓ev_sipush_m1002, ↓ev_putf_2_7, Nat.reduceAdd]
      try simp (disch := omega) only [pk_mul, nI_add, n_lt0, n_le0, n_eq0, n_ge0, n_gt0, n_lt, n_le, n_eq, n_in, n_div, n_rem, n_rem2, n_m1, nI_clamp, bz_0, bz_1, tI_0, tI_bz, n4, n16, eq_self, Nat.reduceLT, Nat.reduceLeDiff, Nat.reduceEqDiff, Nat.reduceAdd, Nat.reduceMul, Nat.reduceDiv, Nat.reduceMod, Nat.le_refl, decide_eq_false_iff_not, Classical.not_not, true_and, and_true, false_and, and_false, not_true_eq_false, not_false_eq_true, forall_const, true_implies, false_implies, implies_true, ne_eq]
      refine ⟨fun _ => ?_, fun c2 => absurd (show 64 ≤ k by omega) c2⟩
      rw [if_pos (by rw [hw]; show k = 64; omega)] at hp
      refine hp _ (OT.up (by decide)) ⟨hC.up2 _ _ _, ?_, ?_, ?_, hle, hL, (show 2 ≤ 2 by decide)⟩
      · rw [hup_idx (by decide), e5]
      · rw [hup_idx (by decide), e6]
      · rw [hup_same]; rfl
    | succ f ih =>
      intro k hk h1 hw
      refine EX.go (Kd_mono _ _) [false, false, false, true, false, false, false, false] 40 3 ?_
      dsimp only [wpc_s, wsl_t, wsl_f, gD_0, gD_s, ↓denB_n, pI_s, pG_s, pU_n, cb_X2_newCluster_0, cb_X2_newCluster_1, cb_X2_newCluster_2, cb_X2_newCluster_3, cb_X2_newCluster_4, cb_X2_newCluster_5, cb_X2_newCluster_6, cb_X2_newCluster_7, ↓ev_aload_n_0, ↓ev_getf_2_7, ↓ev_if_eq, ↓ev_iconst_0, ↓ev_iret, ↓ev_iconst_1, ↓ev_istore_n_1, ↓ev_iload_n_1, ↓ev_bipush_64, ↓ev_icmp_ge, ↓ev_getf_2_0, ↓ev_getf_0_1, ↓ev_iald_m1, ↓ev_iald_m2, ↓ev_iald_m3, ↓ev_iald_m4, ↓ev_iald_m5, ↓ev_iald_m6, ↓ev_iald_o3, ↓ev_if_ne, ↓ev_iinc_1_1, ↓ev_goto, ↓ev_sipush_m1002, ↓ev_putf_2_7, Nat.reduceAdd]
      have e : h (.inl (2, 2)) k = σ.1 k := hC.2.1 k (by omega)
      try simp (disch := omega) only [pk_mul, nI_add, n_lt0, n_le0, n_eq0, n_ge0, n_gt0, n_lt, n_le, n_eq, n_in, n_div, n_rem, n_rem2, n_m1, nI_clamp, bz_0, bz_1, tI_0, tI_bz, n4, n16, eq_self, Nat.reduceLT, Nat.reduceLeDiff, Nat.reduceEqDiff, Nat.reduceAdd, Nat.reduceMul, Nat.reduceDiv, Nat.reduceMod, Nat.le_refl, decide_eq_false_iff_not, Classical.not_not, true_and, and_true, false_and, and_false, not_true_eq_false, not_false_eq_true, forall_const, true_implies, false_implies, implies_true, ne_eq, e]
      unfold nwf at hw
      refine ⟨fun c2 => absurd c2 (by omega), fun _ => ⟨by omega, fun c2 => ?_, fun c2 => ?_⟩⟩
      · rw [if_neg c2] at hw
        exact ih (k + 1) (by omega) (by omega) hw
      · rw [if_pos c2] at hw
        rw [hw, if_neg (by omega)] at hp
        exact hp h OT.rf hT
  · rw [if_neg c] at hp
    exact hp h OT.rf hT
end THO
