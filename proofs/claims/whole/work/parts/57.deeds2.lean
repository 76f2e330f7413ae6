section DE7
variable {L B M : Nat} {σ : Sg} {S S' : St}
theorem gt_fr {f : St → St} {j : Nat} (hf : ∀ S, f S j = S j) (σ : Sg) : (gt L f σ).1 j = σ.1 j := by
  unfold gt
  split
  · split
    · rfl
    · exact hf _
  · rfl
theorem incF_fr {old j : Nat} (hj : 64 ≤ j) : ∀ k (σ : Sg), (incF L old k σ).1 j = σ.1 j
  | 0, _ => rfl
  | k + 1, σ => by rw [incF, addc_hi (dt_lt _ _ _) hj, incF_fr hj k σ]
/-- what a write leaves as it was -/
def frj (l j : Nat) : Prop := 320 ≤ j ∧ ¬ (327 + 4 * l ≤ j ∧ j < 327 + 4 * l + 4)
theorem own_fr {l i j : Nat} (hi : i < 4) (hj : frj l j) (σ : Sg) : (own L l i σ).2.1 j = σ.1 j := by
  obtain ⟨h1, h2⟩ := hj
  unfold own
  split
  · rfl
  · show (own2 L l i (tb σ.1 l i) (ncl σ).1 (ncl σ).2).1 j = σ.1 j
    have h64 := ncl_lt σ
    unfold own2
    rw [addc_hi (tb_lt _ _ _) (by omega), gt_fr (fun S => pk_un (by omega)), incF_fr (by omega), gt_fr (fun S => cp4_out (by omega)), gt_fr (fun S => pk_un (by omega)), ncl_S]
theorem wp1_fr {l p t j : Nat} {v : Int32} (ht : t < 64) (hj : 320 ≤ j) (σ : Sg) : (wp1 L l p v t σ).1 j = σ.1 j := by
  have h64 := ncl_lt σ
  have hd := dt_lt σ.1 t (p / 4 % 4)
  unfold wp1
  split
  · unfold wp2
    rw [gt_fr (fun S => pk_un (by omega)), addc_hi hd (by omega), gt_fr (fun S => pk_un (by omega)), gt_fr (fun S => filF_out (by omega) 4 (by omega)), gt_fr (fun S => pk_un (by omega)), ncl_S]
  · rw [gt_fr (fun S => pk_un (by omega))]
theorem wpl_fr {l p j : Nat} {v : Int32} (hp : p < 64) (hj : frj l j) (σ : Sg) : (wpl L l p v σ).1 j = σ.1 j := by
  unfold wpl
  rw [wp1_fr (own_lt _ _ _ _) hj.1, own_fr (by omega) hj]
theorem mgF_fr {l bb j : Nat} (hj : frj bb j) (σ : Sg) : ∀ p, p ≤ 64 → (mgF L l bb p σ).1 j = σ.1 j
  | 0, _ => rfl
  | p + 1, hp => by
    rw [mgF]
    split
    · exact mgF_fr hj σ p (by omega)
    · rw [wpl_fr (by omega) hj, mgF_fr hj σ p (by omega)]
theorem mvK_fr {l b j : Nat} (hb : b < 16) (hj : frj l j) (σ : Sg) : ∀ k, k ≤ 4 → (mvK L l b k σ).1 j = σ.1 j
  | 0, _ => rfl
  | k + 1, hk => by rw [mvK, wpl_fr (by omega) hj, mvK_fr hb hj σ k (by omega)]
theorem mvF_fr {l j : Nat} {y : Int32} (hj : frj l j) (σ : Sg) : ∀ b, b ≤ 16 → (mvF L l y b σ).1 j = σ.1 j
  | 0, _ => rfl
  | b + 1, hb => by
    rw [mvF]
    split
    · rw [mvK_fr (by omega) hj _ 4 (by omega), mvF_fr hj σ b (by omega)]
    · exact mvF_fr hj σ b (by omega)
theorem bk_cg (h : ∀ j, 320 ≤ j → j < 327 → S' j = S j) {l : Nat} (hm : mn S ≤ 6) : bk S' l = bk S l := by
  unfold bk
  have e1 : mn S' = mn S := by unfold mn; rw [h 320 (by omega) (by omega)]
  rw [e1]
  split
  · rw [h _ (by omega) (by omega)]
  · rfl
theorem sto_cg (h : ∀ l, bk S' l = bk S l) {y : Int32} : ∀ f x, sto S' f x y = sto S f x y
  | 0, _ => rfl
  | f + 1, x => by rw [sto, sto, h, sto_cg h f]
theorem snp_a {l s : Nat} (hBL : B + L < 2 ^ 30) (h : HA B M σ) (hl : l < M) (hs : s < 8) : HA B M (snp L l s σ) := by
  have h1 := csF_a (dd := l) hBL h 4
  unfold snp
  refine ha_gt h1 (fun _ _ => ?_)
  generalize csF L l 4 σ = τ at h1
  have em : mn (wrec τ.1 l s) = mn τ.1 := by
    unfold mn wrec
    rw [if_neg (by omega), if_neg (by omega), if_neg (by omega)]
  exact aw_bd h1 (wf_rec h1.1 (by rw [h1.2.2]; exact hl) hs) (fun c hc => by unfold wrec; rw [if_neg (by omega), if_neg (by omega), if_neg (by omega)]) em
theorem drp_a {s : Nat} (hBL : B + L < 2 ^ 30) (h : HA B M σ) (hs : s < 8) : HA B M (drp L s σ) := by
  unfold drp
  refine rlF_a hBL (fun i => tb_lt _ _ _) ?_ 4
  refine ha_gt h (fun _ _ => aw_bd h (wf_drop h.1 hs) (fun c hc => pk_un (by omega)) ?_)
  unfold mn
  rw [pk_un (by omega)]
theorem prs_6 {s : Nat} : prs S (6 + s) = decide (S (383 + s) = nI 1) := by
  rw [prs_hi (by omega), show 377 + (6 + s) = 383 + s by omega]
theorem rvt_a {l s : Nat} (hBL : B + L < 2 ^ 30) (h : HA B M σ) (hl : l < M) (hs : s < 8) (hp : prs σ.1 (6 + s) = true) : HA B M (rvt L l s σ) := by
  have h1 := csF_a (dd := 6 + s) hBL h 4
  unfold rvt
  refine rlF_a hBL (fun i => tb_lt _ _ _) ?_ 4
  refine ha_gt h1 (fun _ _ => ?_)
  have e : ∀ j, 64 ≤ j → (csF L (6 + s) 4 σ).1 j = σ.1 j := fun j hj => csF_hi hj 4 σ
  have hp1 : prs (csF L (6 + s) 4 σ).1 (6 + s) = true := by
    rw [prs_6, e _ (by omega), ← prs_6]; exact hp
  generalize csF L (6 + s) 4 σ = τ at h1 hp1
  have h6 := h1.1.m
  have hm := h1.2.2
  have ho : ∀ j, ¬ (327 + 4 * l ≤ j ∧ j < 327 + 4 * l + 4) → wdir τ.1 l (6 + s) j = τ.1 j := fun j hj => if_neg hj
  refine aw_bd h1 (wf_ldir h1.1 (by omega) ho (fun k hk => ⟨tb τ.1 (6 + s) k, tbn (by omega) hk, ?_⟩)) (fun c hc => ho c (by omega)) ?_
  · unfold wdir
    rw [if_pos (by omega), show 327 + 4 * l + k - (327 + 4 * l) = k by omega]
    exact h1.1.dr (by omega) hk hp1
  · unfold mn
    rw [ho _ (by omega)]
theorem gvu_a {l b : Nat} (hBL : B + L < 2 ^ 30) (h : HC B M σ) (hl : l < M) (hb : b < 16) : HA B M (gvu L l b σ) := by
  unfold gvu
  split
  · exact h.a
  · refine ha_dn hBL ?_ (dof_lt _ _ _)
    have h1 := own_h (l := l) (i := b / 4) hBL h hl (by omega)
    refine ha_gt h1.1 (fun z _ => ?_)
    obtain ⟨-, h2, h3⟩ := h1.2 z
    have h64 := own_lt L l (b / 4) σ
    refine aw_bd h1.1 (wf_cell h1.1.1 (by omega) h64 (Nat.mod_lt _ (by decide)) (by decide) nam_0) (fun c hc => pk_un (by omega)) ?_
    unfold mn
    rw [pk_un (by omega)]
theorem mrg_a {l bb : Nat} (hBL : B + L < 2 ^ 30) (h : HC B M σ) (hl : l < M) (hb : bb < M) : HA B M (mrg L l bb σ) := by
  have h1 := (mgF_c (l := l) hBL h hb 64 (by omega)).a
  unfold mrg
  refine rlF_a hBL (fun i => tb_lt _ _ _) ?_ 4
  refine ha_gt h1 (fun _ _ => ?_)
  generalize mgF L l bb 64 σ = τ at h1
  have h6 := h1.1.m
  have hm := h1.2.2
  have ho : ∀ j, ¬ (327 + 4 * l ≤ j ∧ j < 327 + 4 * l + 4) → wdr0 τ.1 l j = τ.1 j := fun j hj => if_neg hj
  refine aw_bd h1 (wf_ldir h1.1 (by omega) ho (fun k hk => ⟨0, Or.inl rfl, ?_⟩)) (fun c hc => ho c (by omega)) ?_
  · unfold wdr0
    rw [if_pos (by omega)]
  · unfold mn
    rw [ho _ (by omega)]
theorem mov_a {l safe : Nat} {y : Int32} (hBL : B + L < 2 ^ 30) (h : HC B M σ) (hl : l < M) (hy : y = -1 ∨ ∃ b, b < M ∧ y = nI b) (hs : sto σ.1 6 y (nI l) = false) : HA B M (mov L l y safe σ) := by
  have h6 := h.1.1.m
  have hmS := h.1.2.2
  have h1 : HC B M (if safe = 1 then mvF L l y 16 σ else σ) ∧ ∀ j, 320 ≤ j → j < 327 → (if safe = 1 then mvF L l y 16 σ else σ).1 j = σ.1 j := by
    split
    · exact ⟨mvF_c hBL h hl 16 (by omega), fun j a b => mvF_fr ⟨a, by omega⟩ σ 16 (by omega)⟩
    · exact ⟨h, fun _ _ _ => rfl⟩
  unfold mov
  generalize (if safe = 1 then mvF L l y 16 σ else σ) = τ at h1 ⊢
  refine ha_gt h1.1.a (fun _ _ => aw_bd h1.1.a (wf_bkg h1.1.1.1 (by rw [h1.1.1.2.2]; exact hl) (by rw [h1.1.1.2.2]; exact hy) ?_) (fun c hc => pk_un (by omega)) ?_)
  · rw [sto_cg (S := σ.1) (fun l => bk_cg h1.2 (by omega))]; exact hs
  · unfold mn
    rw [pk_un (by omega)]
theorem laf_p {P : Nat → Bool} {dd : Nat} : ∀ f e, 1 ≤ e → laf S P dd f e = dd ∨ (P (laf S P dd f e) = true ∧ alk S (laf S P dd f e) dd ∧ 1 ≤ laf S P dd f e)
  | 0, _, _ => Or.inl rfl
  | f + 1, e, h => by
    unfold laf
    split
    · rename_i q
      rw [dec_t] at q
      exact Or.inr ⟨q.1, q.2, h⟩
    · exact laf_p f (e + 1) (by omega)
theorem lae_p {P : Nat → Bool} {dd : Nat} (h : lae S P dd < dd) : P (lae S P dd) = true ∧ alk S (lae S P dd) dd ∧ 1 ≤ lae S P dd := (laf_p (S := S) (P := P) (dd := dd) (dd - 1) 1 (Nat.le_refl 1)).resolve_left (by
  have : lae S P dd = laf S P dd (dd - 1) 1 := rfl
  omega)
/-- fold: no cell is of a table but by one that is data -/
theorem fo1_a {Q : Nat → Bool} {t k : Nat} (hBL : B + L < 2 ^ 30) (ht1 : 1 ≤ t) (ht : t < 64) (hk : k < 4) (hQ : ∀ e, Q e = true → ¬ nam σ.1 e) (h : HA B M σ) : HA B M (fo1 L Q t k σ) ∧ ∀ j, 320 ≤ j → (fo1 L Q t k σ).1 j = σ.1 j := by
  unfold fo1
  split
  · rename_i hlt
    have hd := dt_lt σ.1 t k
    obtain ⟨p1, p2, p3⟩ := lae_p hlt
    generalize hdd : dt σ.1 t k = dd at hlt p1 p2 p3 hd ⊢
    generalize lae σ.1 Q dd = e at hlt p1 p2 p3 ⊢
    have h1 := ha_up (c := e) hBL h (by omega)
    have f1 : ∀ j, 64 ≤ j → (addc L e (nI 1) σ).1 j = σ.1 j := fun j hj => addc_hi (by omega) hj σ
    have n1 : ¬ nam (addc L e (nI 1) σ).1 e := by
      rw [(tb_hi (S := σ.1) (fun j hj => f1 j (by omega))).2.2.2.1]
      exact hQ e p1
    refine ⟨ha_dn hBL (ha_gt h1 (fun _ _ => ?_)) hd, fun j hj => ?_⟩
    · refine aw_bd h1 (wf_cell h1.1 ht1 ht hk (by omega) n1) (fun c hc => pk_un (by omega)) ?_
      unfold mn
      rw [pk_un (by omega)]
    · rw [addc_hi hd (by omega), gt_fr (fun S => pk_un (by omega)), f1 j (by omega)]
  · exact ⟨h, fun _ _ => rfl⟩
theorem foK_a {Q : Nat → Bool} {t : Nat} (hBL : B + L < 2 ^ 30) (ht1 : 1 ≤ t) (ht : t < 64) (hQ : ∀ e, Q e = true → ¬ nam σ.1 e) (h : HA B M σ) : ∀ k, k ≤ 4 → HA B M (foK L Q t k σ) ∧ ∀ j, 320 ≤ j → (foK L Q t k σ).1 j = σ.1 j
  | 0, _ => ⟨h, fun _ _ => rfl⟩
  | k + 1, hk => by
    obtain ⟨i1, i2⟩ := foK_a hBL ht1 ht hQ h k (by omega)
    rw [foK]
    obtain ⟨j1, j2⟩ := fo1_a (Q := Q) (k := k) hBL ht1 ht (by omega) (fun e he => by rw [(tb_hi i2).2.2.2.1]; exact hQ e he) i1
    exact ⟨j1, fun j hj => (j2 j hj).trans (i2 j hj)⟩
theorem foF_a {P Q : Nat → Bool} (hBL : B + L < 2 ^ 30) (hP : ∀ t, P t = true → 1 ≤ t) (hQ : ∀ e, Q e = true → ¬ nam σ.1 e) (h : HA B M σ) : ∀ t, t ≤ 64 → HA B M (foF L P Q t σ) ∧ ∀ j, 320 ≤ j → (foF L P Q t σ).1 j = σ.1 j
  | 0, _ => ⟨h, fun _ _ => rfl⟩
  | t + 1, ht => by
    obtain ⟨i1, i2⟩ := foF_a hBL hP hQ h t (by omega)
    rw [foF]
    split
    · rename_i hp
      obtain ⟨j1, j2⟩ := foK_a (Q := Q) hBL (hP t hp) (by omega) (fun e he => by rw [(tb_hi i2).2.2.2.1]; exact hQ e he) i1 4 (by omega)
      exact ⟨j1, fun j hj => (j2 j hj).trans (i2 j hj)⟩
    · exact ⟨i1, i2⟩
theorem isD_nn {c : Nat} (hw : WF S) (h : isD S (fun t => dec (isT S 0 14 t)) c) : ¬ nam S c := by
  obtain ⟨-, t, k, h1, h2, h3, h4, h5⟩ := h
  rw [dec_t] at h4
  rw [← h5]
  exact hw.nd h4 h3
theorem fol_a (hBL : B + L < 2 ^ 30) (h : HA B M σ) : HA B M (fol L σ) := by
  unfold fol
  refine (foF_a hBL (fun t ht => ?_) (fun e he => ?_) h 64 (by omega)).1
  · rw [dec_t] at ht
    exact (nam_lt ht).1
  · rw [dec_t] at he
    exact isD_nn h.1 he
end DE7
