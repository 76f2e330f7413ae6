section HO3
variable {L B M : Nat} {σ : Sg} {S S' : St}
/-- nothing that is read changes -/
theorem dof_unn {m d b : Nat} (hm : ¬ nam S m) (hh : ∀ j, ¬ (64 + 4 * m ≤ j ∧ j < 64 + 4 * m + 4) → S' j = S j) (hm2 : m < 64) (hd : d < 14) (hb : b < 16) : dof S' d b = dof S d b := by
  have e3 := (tb_hi (S := S) (S' := S') (fun j hj => hh j (by omega))).2.2.1
  unfold dof
  rw [e3]
  by_cases q : tb S d (b / 4) = 0
  · rw [q, dt_0, dt_0]
  · have hne : tb S d (b / 4) ≠ m := fun e => hm (by rw [← e]; exact nam_tb hd (by omega) q)
    rw [dt_pos q, dt_pos q, hh _ (by have : b % 4 < 4 := Nat.mod_lt _ (by decide); omega)]
theorem dof_nd {d b : Nat} (hd : d < 14) (hb : b < 16) (h : dof S d b ≠ 0) : nam S (tb S d (b / 4)) ∧ tb S d (b / 4) ≠ 0 := by
  have q : tb S d (b / 4) ≠ 0 := fun e => h (by unfold dof; rw [e, dt_0])
  exact ⟨nam_tb hd (by omega) q, q⟩
theorem rdf_unn {m p : Nat} (hm : ¬ nam S m) (hf : ∀ t k, nam S t → k < 4 → dt S t k ≠ m) (hh : ∀ j, ¬ (64 + 4 * m ≤ j ∧ j < 64 + 4 * m + 4) → S' j = S j) (hm2 : m < 64) (hp : p < 64) : ∀ f x, rdf S' f x p = rdf S f x p
  | 0, x => rfl
  | f + 1, x => by
    have e1 := (tb_hi (S := S) (S' := S') (fun j hj => hh j (by omega))).1
    unfold rdf
    by_cases q : 0 ≤ x ∧ x < nI 6
    · rw [if_pos q, if_pos q]
      obtain ⟨l, hl, rfl⟩ := okN_n (n := 6) ⟨Int32.not_lt.mpr q.1, q.2⟩ (by decide)
      rw [nI_clamp (by omega), dof_unn hm hh hm2 (by omega) (by omega)]
      by_cases q2 : dof S l (p / 4) = 0
      · rw [if_pos q2, if_pos q2]
        have : bk S' l = bk S l := by unfold bk; rw [e1, hh _ (by omega)]
        rw [this]
        exact rdf_unn hm hf hh hm2 hp f _
      · rw [if_neg q2, if_neg q2]
        have hn := dof_nd (by omega) (by omega) q2
        have : dof S l (p / 4) ≠ m := hf _ _ hn.1 (Nat.mod_lt _ (by decide))
        rw [hh _ (by omega)]
    · rw [if_neg q, if_neg q]
theorem filF_out {l b m j : Nat} (hj : ¬ (64 + 4 * m ≤ j ∧ j < 64 + 4 * m + 4)) : ∀ k, k ≤ 4 → filF S l b m k j = S j
  | 0, _ => rfl
  | k + 1, hk => by
    rw [filF, pk_un (by omega)]
    exact filF_out hj k (by omega)
theorem filF_in {l b m : Nat} (hm : ¬ nam S m) (hf : ∀ t k, nam S t → k < 4 → dt S t k ≠ m) (hm2 : m < 64) (hb : b < 16) : ∀ k j, k ≤ 4 → j < k → filF S l b m k (64 + (4 * m + j)) = rdf S 6 (nI l) (4 * b + j)
  | 0, j, _, hj => absurd hj (by omega)
  | k + 1, j, hk, hj => by
    rw [filF]
    by_cases q : j = k
    · subst q
      rw [pk_us]
      exact rdf_unn hm hf (fun i hi => filF_out hi j (by omega)) hm2 (by omega) 6 _
    · rw [pk_un (by omega)]
      exact filF_in hm hf hm2 hb k j (by omega) (by omega)
/-- while the data are copied -/
def PW (l i t j d m : Nat) (S : St) : Prop := S m = nI 1 ∧ tb S l i = t ∧ dt S t j = d
theorem pw_fr {l i t j d m : Nat} (hw : WF S) (hl : l < mn S) (hi : i < 4) (h : CN S (icn m)) (hp : PW l i t j d m S) (ht : t ≠ 0) (h1 : 1 ≤ m) (h2 : m < 64) : ¬ nam S m ∧ (∀ t k, nam S t → k < 4 → dt S t k ≠ m) ∧ nam S t := by
  obtain ⟨a1, a2⟩ := cn_fr h h1 h2 (by rw [hp.1, icn_s, i1]; decide)
  have hm6 := hw.m
  exact ⟨a1, a2, by rw [← hp.2.1]; exact nam_tb (by omega) hi (by rw [hp.2.1]; exact ht)⟩
theorem wp_s1 {l i t j m d : Nat} (h : HQ (AW B M) (fun S _ => C0 S ∧ tb S l i = t) σ) (hm : m < 64) (hm0 : σ.2.2 = 0 → σ.1 m = 0) (hd : dt σ.1 t j = d) : HQ (AW B M) (fun S _ => CN S (icn m) ∧ PW l i t j d m S) (gt L (fun S => upd S m (nI 1)) σ) := by
  have h' : HQ (AW B M) (fun S _ => C0 S ∧ tb S l i = t ∧ S m = 0 ∧ dt S t j = d) σ := ⟨h.1, fun z => ⟨(h.2 z).1, (h.2 z).2, hm0 z, hd⟩⟩
  refine hq_gt h' (fun S n ha hp hn => ⟨⟨wf_cnt ha.1 (fun j hj => upd_hi hm hj), bd_1 (m := B + n) ha.2.1, (lo_same (by omega)).1.trans ha.2.2⟩, cn_new hp.1 hm hp.2.2.1, pk_us, ?_, ?_⟩)
  · rw [(lo_same (by omega)).2.2.1]; exact hp.2.1
  · rw [dt_cnt hm]; exact hp.2.2.2
theorem wp_s2 {l i t j m d : Nat} {f : St → St} (hl : l < M) (hi : i < 4) (ht : t ≠ 0) (h1 : 1 ≤ m) (hm : m < 64) (h : HQ (AW B M) (fun S _ => CN S (icn m) ∧ PW l i t j d m S) σ) (hj : j < 4) (hf : ∀ S j, ¬ (64 + 4 * m ≤ j ∧ j < 64 + 4 * m + 4) → f S j = S j) : HQ (AW B M) (fun S _ => CN S (icn m) ∧ PW l i t j d m S) (gt L f σ) := by
  refine hq_gt h (fun S n ha hp hn => ?_)
  obtain ⟨f1, f2, f3⟩ := pw_fr ha.1 (by rw [ha.2.2]; exact hl) hi hp.1 hp.2 ht h1 hm
  obtain ⟨e1, e2, e3, e4, e5⟩ := tb_hi (S := S) (S' := f S) (fun i hi => hf S i (by omega))
  refine ⟨aw_bd ha (wf_unn ha.1 h1 hm f1 (hf S)) (fun c hc => hf S c (by omega)) e1, cn_lo hp.1 (fun c hc => hf S c (by omega)) (fun c h1 h2 => tot_unn f1 (hf S) hm h1 h2), ?_, ?_, ?_⟩
  · rw [hf S m (by omega)]; exact hp.2.1
  · rw [e3]; exact hp.2.2.1
  · have : t ≠ m := fun e => f1 (by rw [← e]; exact f3)
    rw [← hp.2.2.2, dt_pos ht, dt_pos ht, hf S _ (by omega)]
theorem wp_s3 {l i t j m d : Nat} (hl : l < M) (hi : i < 4) (ht : t ≠ 0) (h1 : 1 ≤ m) (hm : m < 64) (hj : j < 4) (h : HQ (AW B M) (fun S _ => CN S (icn m) ∧ PW l i t j d m S) σ) : HQ (AW B M) (fun S _ => CN S (fun c => 0 + icn d c) ∧ tb S l i = t ∧ dt S t j = m ∧ ¬ nam S m) (gt L (fun S => upd S (64 + (4 * t + j)) (nI m)) σ) := by
  refine hq_gt h (fun S n ha hp hn => ?_)
  obtain ⟨f1, f2, f3⟩ := pw_fr ha.1 (by rw [ha.2.2]; exact hl) hi hp.1 hp.2 ht h1 hm
  have ht64 := (nam_lt f3).2
  obtain ⟨e1, e2, e3, e4, e5⟩ := tb_hi (S := S) (S' := upd S (64 + (4 * t + j)) (nI m)) (fun i hi => pk_un (by omega))
  have ed := dt_upd (S := S) (t := t) (j := j) (m := m) (by omega) hm hj
  refine ⟨aw_bd ha (wf_cell ha.1 (by omega) ht64 hj hm f1) (fun c hc => pk_un (by omega)) e1, fun c h1 h2 => ?_, ?_, ?_, ?_⟩
  · have h5 := tot_cell (R := rfc S) (D := dt S) (D' := dt (upd S (64 + (4 * t + j)) (nI m))) (c := c) (by omega) ht64 (isT_rfc.mp f3).2 hj ed
    have h6 := hp.1 c h1 h2
    have h7 : rfc (upd S (64 + (4 * t + j)) (nI m)) = rfc S := funext e5
    rw [h7, pk_un (by omega)]
    rw [hp.2.2.2] at h5
    dsimp only
    omega
  · rw [e3]; exact hp.2.2.1
  · rw [ed t j hj, if_pos ⟨rfl, rfl⟩]
  · rw [e4]; exact f1
/-- the place reads as v -/
def RV (l p : Nat) (v : Int32) (S : St) : Prop := dof S l (p / 4) ≠ 0 ∧ S (64 + (4 * dof S l (p / 4) + p % 4)) = v
theorem wp_s5 {l p t m : Nat} {v : Int32} (hl : l < M) (hp64 : p < 64) (ht : t ≠ 0) (h1 : 1 ≤ m) (hm : m < 64) (h : HQ (AW B M) (fun S _ => C0 S ∧ tb S l (p / 4 / 4) = t ∧ dt S t (p / 4 % 4) = m ∧ ¬ nam S m) σ) : HQ (AW B M) (fun S _ => C0 S ∧ RV l p v S) (gt L (fun S => upd S (64 + (4 * m + p % 4)) v) σ) := by
  refine hq_gt h (fun S n ha hp hn => ?_)
  have hm6 := ha.1.m
  have hmS := ha.2.2
  have hout : ∀ j, ¬ (64 + 4 * m ≤ j ∧ j < 64 + 4 * m + 4) → upd S (64 + (4 * m + p % 4)) v j = S j := fun j hj => pk_un (by omega)
  obtain ⟨e1, e2, e3, e4, e5⟩ := tb_hi (S := S) (S' := upd S (64 + (4 * m + p % 4)) v) (fun i hi => pk_un (by omega))
  have ed : dof (upd S (64 + (4 * m + p % 4)) v) l (p / 4) = m := by
    rw [dof_unn hp.2.2.2 hout hm (by omega) (by omega)]
    unfold dof
    rw [hp.2.1, hp.2.2.1]
  refine ⟨aw_bd ha (wf_unn ha.1 h1 hm hp.2.2.2 hout) (fun c hc => pk_un (by omega)) e1, cn_lo hp.1 (fun c hc => pk_un (by omega)) (fun c h1 h2 => tot_unn hp.2.2.2 hout hm h1 h2), ?_⟩
  unfold RV
  rw [ed, pk_us]
  exact ⟨by omega, rfl⟩
theorem wp1_h {l p t : Nat} {v : Int32} (hBL : B + L < 2 ^ 30) (h : HQ (AW B M) (fun S _ => C0 S ∧ tb S l (p / 4 / 4) = t ∧ t ≠ 0) σ) (hl : l < M) (hp : p < 64) :
    HQ (AW B M) (fun S _ => C0 S ∧ RV l p v S) (wp1 L l p v t σ) := by
  by_cases q0 : σ.2.2 = 0
  · obtain ⟨hC, htb, ht⟩ := h.2 q0
    have hm6 := h.1.1.m
    have hmS := h.1.2.2
    have h' : HQ (AW B M) (fun S _ => C0 S ∧ tb S l (p / 4 / 4) = t) σ := ⟨h.1, fun z => ⟨(h.2 z).1, (h.2 z).2.1⟩⟩
    unfold wp1
    generalize hd : dt σ.1 t (p / 4 % 4) = d
    have hd64 : d < 64 := by rw [← hd]; exact dt_lt _ _ _
    have hnt : nam σ.1 t := by rw [← htb]; exact nam_tb (by omega) (by omega) (by rw [htb]; exact ht)
    split
    · by_cases q1 : nw σ.1 = 64
      · have e : ncl σ = (0, (σ.1, σ.2.1, 2)) := by unfold ncl; rw [if_pos q0, if_pos q1]
        rw [e]
        dsimp only
        rw [wp2_hz (show ¬ (2 : Nat) = 0 by decide), gt_hz (show ¬ (2 : Nat) = 0 by decide)]
        exact ⟨h.1, fun z => absurd z (show ¬ (2 : Nat) = 0 by decide)⟩
      · have e : ncl σ = (nw σ.1, σ) := by unfold ncl; rw [if_pos q0, if_neg q1]
        rw [e]
        have hn1 := nw_le σ.1
        have hn0 := nw_0 (S := σ.1) (by omega)
        generalize nw σ.1 = m at q1 hn1 hn0 ⊢
        dsimp only
        unfold wp2
        have s1 := wp_s1 (L := L) h' (show m < 64 by omega) (fun _ => hn0) hd
        have s2 := wp_s2 (L := L) hl (by omega) ht hn1.1 (by omega) s1 (Nat.mod_lt _ (by decide)) (f := fun S => filF S l (p / 4) m 4) (fun S j hj => filF_out hj 4 (by omega))
        have s3 := wp_s3 (L := L) hl (by omega) ht hn1.1 (by omega) (Nat.mod_lt _ (by decide)) s2
        have s4 := hq_dn (E := fun _ => 0) (F := fun S => tb S l (p / 4 / 4) = t ∧ dt S t (p / 4 % 4) = m ∧ ¬ nam S m) hBL s3 hd64 (fun S v hF => by
          obtain ⟨a1, a2, a3, a4, a5⟩ := tb_hi (S := S) (S' := upd S d v) (fun i hi => pk_un (by omega))
          exact ⟨by rw [a3]; exact hF.1, by rw [dt_cnt hd64]; exact hF.2.1, by rw [a4]; exact hF.2.2⟩)
        exact wp_s5 hl hp ht hn1.1 (by omega) s4
    · rename_i hx
      have hd0 : d ≠ 0 := fun e => hx (Or.inl e)
      refine wp_s5 hl hp ht (by omega) hd64 ⟨h.1, fun z => ⟨hC, htb, hd, ?_⟩⟩
      rw [← hd]
      exact h.1.1.nd hnt (Nat.mod_lt _ (by decide))
  · rw [wp1_hz q0]
    exact ⟨h.1, fun z => absurd z q0⟩
theorem wpl_h {l p : Nat} {v : Int32} (hBL : B + L < 2 ^ 30) (h : HQ (AW B M) (fun S _ => C0 S) σ) (hl : l < M) (hp : p < 64) : HQ (AW B M) (fun S _ => C0 S ∧ RV l p v S) (wpl L l p v σ) := wp1_h hBL (own_h hBL h hl (by omega)) hl hp
/-- a row of deeds' writes -/
def HC (B M : Nat) (σ : Sg) : Prop := HQ (AW B M) (fun S _ => C0 S) σ
theorem wpl_c {l p : Nat} {v : Int32} (hBL : B + L < 2 ^ 30) (h : HC B M σ) (hl : l < M) (hp : p < 64) : HC B M (wpl L l p v σ) := hq_w (wpl_h hBL h hl hp) (fun _ _ _ z => z.1)
theorem own_c {l i : Nat} (hBL : B + L < 2 ^ 30) (h : HC B M σ) (hl : l < M) (hi : i < 4) : HC B M (own L l i σ).2 := hq_w (own_h hBL h hl hi) (fun _ _ _ z => z.1)
theorem mgF_c {l bb : Nat} (hBL : B + L < 2 ^ 30) (h : HC B M σ) (hb : bb < M) : ∀ p, p ≤ 64 → HC B M (mgF L l bb p σ)
  | 0, _ => h
  | p + 1, hp => by
    rw [mgF]
    split
    · exact mgF_c hBL h hb p (by omega)
    · exact wpl_c hBL (mgF_c hBL h hb p (by omega)) hb (by omega)
theorem mvK_c {l b : Nat} (hBL : B + L < 2 ^ 30) (hl : l < M) (hb : b < 16) : ∀ k, k ≤ 4 → ∀ σ, HC B M σ → HC B M (mvK L l b k σ)
  | 0, _, _, h => h
  | k + 1, hk, σ, h => wpl_c hBL (mvK_c hBL hl hb k (by omega) σ h) hl (by omega)
theorem mvF_c {l : Nat} {y : Int32} (hBL : B + L < 2 ^ 30) (h : HC B M σ) (hl : l < M) : ∀ b, b ≤ 16 → HC B M (mvF L l y b σ)
  | 0, _ => h
  | b + 1, hb => by
    rw [mvF]
    split
    · exact mvK_c hBL hl (by omega) 4 (by omega) _ (mvF_c hBL h hl b (by omega))
    · exact mvF_c hBL h hl b (by omega)
theorem rwF_c {l : Nat} (hBL : B + L < 2 ^ 30) (h : HC B M σ) (hl : l < M) : ∀ k, k ≤ 64 → HC B M (rwF L l k σ)
  | 0, _ => h
  | k + 1, hk => wpl_c hBL (rwF_c hBL h hl k (by omega)) hl (by omega)
end HO3
