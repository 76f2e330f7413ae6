section HO2
variable {L B M : Nat} {σ : Sg} {S S' : St}
/-- halted: nothing is done -/
theorem gt_hz {f : St → St} (h : ¬ σ.2.2 = 0) : gt L f σ = σ := by unfold gt; rw [if_neg h]
theorem addc_hz {c : Nat} {v : Int32} (h : ¬ σ.2.2 = 0) : addc L c v σ = σ := by
  unfold addc
  split
  · rfl
  · exact gt_hz h
theorem incF_hz {old : Nat} (h : ¬ σ.2.2 = 0) : ∀ k, incF L old k σ = σ
  | 0 => rfl
  | k + 1 => by rw [incF, incF_hz h k, addc_hz h]
theorem own2_hz {l i old n : Nat} (h : ¬ σ.2.2 = 0) : own2 L l i old n σ = σ := by
  unfold own2
  rw [gt_hz h, gt_hz h, incF_hz h, gt_hz h, addc_hz h]
theorem ncl_hz (h : ¬ σ.2.2 = 0) : ncl σ = (0, σ) := by unfold ncl; rw [if_neg h]
theorem own_hz {l i : Nat} (h : ¬ σ.2.2 = 0) : (own L l i σ).2 = σ := by
  unfold own
  split
  · rfl
  · rw [ncl_hz h]
    exact own2_hz h
theorem wp2_hz {l b t old m : Nat} (h : ¬ σ.2.2 = 0) : wp2 L l b t old m σ = σ := by
  unfold wp2
  rw [gt_hz h, gt_hz h, gt_hz h, addc_hz h]
theorem wp1_hz {l p t : Nat} {v : Int32} (h : ¬ σ.2.2 = 0) : wp1 L l p v t σ = σ := by
  unfold wp1
  split
  · rw [ncl_hz h]
    dsimp only
    rw [wp2_hz h, gt_hz h]
  · exact gt_hz h
theorem wpl_hz {l p : Nat} {v : Int32} (h : ¬ σ.2.2 = 0) : wpl L l p v σ = σ := by
  unfold wpl
  rw [own_hz h]
  exact wp1_hz h
/-- while the table is copied -/
def PO (l i old n : Nat) (S : St) : Prop := S n = nI 1 ∧ tb S l i = old
theorem po_up {l i old n c : Nat} (hn : c ≠ n) (hc : c < 64) : ∀ (S : St) v, PO l i old n S → PO l i old n (upd S c v) := fun S v h => ⟨by rw [pk_un (Ne.symm hn)]; exact h.1, by rw [(lo_same (by omega)).2.2.1]; exact h.2⟩
/-- cells of n are those of old -/
def PC (old n : Nat) (S : St) : Prop := ∀ k, k < 4 → S (64 + 4 * n + k) = S (64 + 4 * old + k)
theorem pc_up {old n c : Nat} (hc : c < 64) : ∀ (S : St) v, PC old n S → PC old n (upd S c v) := fun S v h k hk => by
  rw [pk_un (by omega), pk_un (by omega)]
  exact h k hk
theorem dt_0 {k : Nat} : dt S 0 k = 0 := if_pos rfl
theorem dt_pos {t k : Nat} (h : t ≠ 0) : dt S t k = cl (S (64 + 4 * t + k)) := if_neg h
theorem dt_cnt {c t k : Nat} {v : Int32} (hc : c < 64) : dt (upd S c v) t k = dt S t k := by
  unfold dt
  rw [pk_un (by omega)]
/-- the sum of what was raised so far -/
def sE (S : St) (old j c : Nat) : Nat := fb_sm (fun k => icn (dt S old k) c) j
theorem own_h {l i : Nat} (hBL : B + L < 2 ^ 30) (h : HQ (AW B M) (fun S _ => C0 S) σ) (hl : l < M) (hi : i < 4) :
    HQ (AW B M) (fun S _ => C0 S ∧ tb S l i = (own L l i σ).1 ∧ (own L l i σ).1 ≠ 0) (own L l i σ).2 := by
  unfold own
  have hm := h.1.2.2
  by_cases q : ¬ tb σ.1 l i = 0 ∧ σ.1 (tb σ.1 l i) ≤ nI 1
  · rw [if_pos q]
    exact ⟨h.1, fun z => ⟨h.2 z, rfl, q.1⟩⟩
  · rw [if_neg q]
    generalize hold : tb σ.1 l i = old
    have ho64 : old < 64 := by rw [← hold]; exact tb_lt _ _ _
    dsimp only
    by_cases q0 : σ.2.2 = 0
    · by_cases q1 : nw σ.1 = 64
      · have e : ncl σ = (0, (σ.1, σ.2.1, 2)) := by unfold ncl; rw [if_pos q0, if_pos q1]
        rw [e]
        have hA : HQ (AW B M) (fun S _ => C0 S ∧ tb S l i = 0 ∧ (0 : Nat) ≠ 0) ((σ.1, σ.2.1, 2) : Sg) := ⟨h.1, fun z => absurd z (show ¬ (2 : Nat) = 0 by decide)⟩
        have := own2_hz (L := L) (σ := ((σ.1, σ.2.1, 2) : Sg)) (l := l) (i := i) (old := old) (n := 0) (show ¬ (2 : Nat) = 0 by decide)
        rw [this]
        exact hA
      · have e : ncl σ = (nw σ.1, σ) := by unfold ncl; rw [if_pos q0, if_neg q1]
        rw [e]
        have hn1 := nw_le σ.1
        have hn0 := nw_0 (S := σ.1) (by omega)
        generalize nw σ.1 = n at q1 hn1 hn0 ⊢
        dsimp only
        obtain ⟨hne, hfr⟩ := cn_fr (h.2 q0) hn1.1 (by omega) (show (σ.1 n).toInt ≤ ((0 : Nat) : Int) by rw [hn0]; decide)
        have hon : old ≠ n := fun e => hne (by rw [← e, ← hold]; exact nam_tb (by have := h.1.1.m; omega) hi (by rw [hold, e]; omega))
        have hod : ∀ S, WF S → mn S = M → CN S (icn n) → PO l i old n S → ¬ nam S n ∧ (∀ t k, nam S t → k < 4 → dt S t k ≠ n) ∧ (old ≠ 0 → nam S old) := by
          intro S hw hmS hc hp
          obtain ⟨a1, a2⟩ := cn_fr hc hn1.1 (by omega) (by rw [hp.1, icn_s, i1]; decide)
          have hm6 := hw.m
          exact ⟨a1, a2, fun z => by rw [← hp.2]; exact nam_tb (by omega) hi (by rw [hp.2]; exact z)⟩
        -- [COUNT n] 1
        have s1 : HQ (AW B M) (fun S _ => CN S (icn n) ∧ PO l i old n S) (gt L (fun S => upd S n (nI 1)) σ) := by
          have h' : HQ (AW B M) (fun S _ => C0 S ∧ S n = 0 ∧ tb S l i = old) σ := ⟨h.1, fun z => ⟨h.2 z, hn0, hold⟩⟩
          refine hq_gt h' (fun S m ha hp hm' => ⟨⟨wf_cnt ha.1 (fun j hj => upd_hi (by omega) hj), bd_1 (m := B + m) ha.2.1, ?_⟩, cn_new hp.1 (by omega) hp.2.1, pk_us, ?_⟩)
          · exact (lo_same (by omega)).1.trans ha.2.2
          · rw [(lo_same (by omega)).2.2.1]; exact hp.2.2
        -- [CELLS n]
        have s2 : HQ (AW B M) (fun S _ => CN S (icn n) ∧ PO l i old n S ∧ PC old n S) (gt L (fun S => cp4 S old n) (gt L (fun S => upd S n (nI 1)) σ)) := by
          refine hq_gt s1 (fun S m ha hp hm' => ?_)
          obtain ⟨f1, f2, f3⟩ := hod S ha.1 ha.2.2 hp.1 hp.2
          have hout : ∀ j, ¬ (64 + 4 * n ≤ j ∧ j < 64 + 4 * n + 4) → cp4 S old n j = S j := fun j hj => cp4_out hj
          obtain ⟨e1, e2, e3, e4, e5⟩ := tb_hi (S := S) (S' := cp4 S old n) (fun j hj => hout j (by omega))
          refine ⟨aw_bd ha (wf_unn ha.1 hn1.1 (by omega) f1 hout) (fun c hc => hout c (by omega)) e1, cn_lo hp.1 (fun c hc => hout c (by omega)) (fun c h1 h2 => tot_unn f1 hout (by omega) h1 h2), ⟨by rw [hout n (by omega)]; exact hp.2.1, by rw [e3]; exact hp.2.2⟩, fun k hk => ?_⟩
          rw [cp4_in hk, hout _ (by omega)]
        -- each [COUNT of that] 1 more
        have s3 : ∀ j, j ≤ 4 → HQ (AW B M) (fun S _ => CN S (fun c => icn n c + sE S old j c) ∧ PO l i old n S ∧ PC old n S) (incF L old j (gt L (fun S => cp4 S old n) (gt L (fun S => upd S n (nI 1)) σ))) := by
          intro j
          induction j with
          | zero => intro _; exact hq_w s2 (fun S _ _ hp => ⟨cn_w hp.1 (fun c _ _ => by show icn n c + 0 ≤ _; omega), hp.2⟩)
          | succ j ih =>
            intro hj
            have ih := ih (by omega)
            rw [incF]
            generalize hτ : incF L old j (gt L (fun S => cp4 S old n) (gt L (fun S => upd S n (nI 1)) σ)) = τ at ih ⊢
            have hd64 := dt_lt τ.1 old j
            have hdn : τ.2.2 = 0 → dt τ.1 old j ≠ n := by
              intro z
              have hp := ih.2 z
              have hc2 : CN τ.1 (icn n) := cn_w hp.1 (fun c _ _ => Nat.le_add_right _ _)
              obtain ⟨f1, f2, f3⟩ := hod τ.1 ih.1.1 ih.1.2.2 hc2 hp.2.1
              by_cases z0 : old = 0
              · rw [z0, dt_0]; omega
              · exact f2 old j (f3 z0) (by omega)
            by_cases z : τ.2.2 = 0
            · have hd := hdn z
              have ih' : HQ (AW B M) (fun S _ => CN S (fun c => icn n c + sE S old j c) ∧ (PO l i old n S ∧ PC old n S) ∧ dt S old j = dt τ.1 old j) τ := ⟨ih.1, fun z => ⟨(ih.2 z).1, (ih.2 z).2, rfl⟩⟩
              generalize dt τ.1 old j = x at hd64 hd ih' ⊢
              unfold addc
              by_cases x0 : x = 0
              · rw [if_pos x0]
                refine hq_w ih' (fun S _ _ hp => ⟨cn_w hp.1 (fun c h1 _ => ?_), hp.2.1⟩)
                show icn n c + (sE S old j c + icn (dt S old j) c) ≤ icn n c + sE S old j c
                rw [hp.2.2, x0, icn_n (show (0 : Nat) ≠ c by omega)]
                omega
              · rw [if_neg x0]
                refine hq_gt ih' (fun S m ha hp hm' => ⟨⟨wf_cnt ha.1 (fun j hj => upd_hi hd64 hj), bd_up (m := B + m) ha.2.1 (by omega) hd64, (lo_same (by omega)).1.trans ha.2.2⟩, cn_w (cn_up (m := B + m) hp.1 ha.2.1 (by omega) hd64) (fun c h1 _ => ?_), po_up hd hd64 _ _ hp.2.1.1, pc_up hd64 _ _ hp.2.1.2⟩)
                show icn n c + (fb_sm (fun k => icn (dt (upd S x (S x + nI 1)) old k) c) j + icn (dt (upd S x (S x + nI 1)) old j) c) ≤ icn n c + sE S old j c + icn x c
                simp only [dt_cnt hd64, hp.2.2]
                unfold sE
                omega
            · unfold addc
              split
              · exact ⟨ih.1, fun w => absurd w z⟩
              · exact hq_gt (P := fun _ _ => False) ⟨ih.1, fun w => absurd w z⟩ (fun _ _ _ hp _ => hp.elim)
        -- [DIRECTORY] n
        have s4 : HQ (AW B M) (fun S _ => CN S (fun c => 0 + icn old c) ∧ tb S l i = n) (gt L (fun S => upd S (327 + 4 * l + i) (nI n)) (incF L old 4 (gt L (fun S => cp4 S old n) (gt L (fun S => upd S n (nI 1)) σ)))) := by
          refine hq_gt (s3 4 (by omega)) (fun S m ha hp hm' => ?_)
          have hm6 := ha.1.m
          have hc2 : CN S (icn n) := cn_w hp.1 (fun c _ _ => Nat.le_add_right _ _)
          obtain ⟨f1, f2, f3⟩ := hod S ha.1 ha.2.2 hc2 hp.2.1
          have hmS := ha.2.2
          obtain ⟨e1, e2, e3⟩ := tb_one (S := S) (l := l) (i := i) (n := n) hm6 (by omega) hi (by omega)
          have edt : ∀ k, k < 4 → dt S n k = dt S old k := by
            intro k hk
            rw [dt_pos (by omega), hp.2.2 k hk]
            by_cases z0 : old = 0
            · rw [z0, dt_0, show 64 + 4 * 0 + k = 64 + k by omega, ha.1.z k hk, cl_n (by omega)]
            · rw [dt_pos z0]
          have hw : WF (upd S (327 + 4 * l + i) (nI n)) := by
            refine wf_dir ha.1 (by omega) hi hn1.1 (by omega) (fun k hk => ?_) f2 (fun k hk => ?_)
            · rw [hp.2.2 k hk]
              by_cases z0 : old = 0
              · rw [z0, show 64 + 4 * 0 + k = 64 + k by omega, ha.1.z k hk, cl_n (by omega)]
              · exact ha.1.cn (f3 z0) k hk
            · rw [edt k hk]
              by_cases z0 : old = 0
              · rw [z0, dt_0]
                exact ⟨nam_0, by omega⟩
              · exact ⟨ha.1.nd (f3 z0) hk, f2 old k (f3 z0) hk⟩
          refine ⟨aw_bd ha hw (fun c hc => pk_un (by omega)) e1, fun c h1 h2 => ?_, ?_⟩
          · have hR : ∀ t, 1 ≤ t → t < 64 → rfc (upd S (327 + 4 * l + i) (nI n)) t + icn old t = rfc S t + icn n t := by
              intro t _ _
              have := rfc_one (S := S) (S' := upd S (327 + 4 * l + i) (nI n)) (l := l) (i := i) (n := n) (by omega) hi (fun d k _ hk => e3 d k hk) t
              rwa [hp.2.1.2] at this
            have h5 := tot_dir (D := dt S) (show n < 64 by omega) hR h1 h2
            have h6 := hp.1 c h1 h2
            have h7 : cnD (dt S) n c = sE S old 4 c := fb_sm_cong (fun k hk => by rw [edt k hk])
            have h8 : tot (rfc (upd S (327 + 4 * l + i) (nI n))) (dt (upd S (327 + 4 * l + i) (nI n))) c = tot (rfc (upd S (327 + 4 * l + i) (nI n))) (dt S) c := tot_cg h1 h2 (fun _ _ _ => rfl) (fun t a1 a2 _ k hk => by unfold dt; rw [pk_un (by omega)])
            rw [h8, pk_un (by omega)]
            dsimp only at h6 ⊢
            omega
          · rw [e3 l i hi, if_pos ⟨rfl, rfl⟩]
        -- [COUNT o] 1 less
        have s5 := hq_dn (E := fun _ => 0) (F := fun S => tb S l i = n) hBL s4 ho64 (fun S v hF => by rw [(lo_same (by omega)).2.2.1]; exact hF)
        exact hq_w s5 (fun S _ _ hp => ⟨hp.1, hp.2, by omega⟩)
    · have e : ncl σ = (0, σ) := by unfold ncl; rw [if_neg q0]
      rw [e]
      have := own2_hz (L := L) (l := l) (i := i) (old := old) (n := 0) q0
      rw [this]
      exact ⟨h.1, fun z => absurd z q0⟩
end HO2
