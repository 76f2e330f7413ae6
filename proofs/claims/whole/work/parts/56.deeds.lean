section DEH
variable {L B M : Nat} {σ : Sg} {S S' : St}
def HA (B M : Nat) (σ : Sg) : Prop := AW B M σ.1 σ.2.1
theorem HC.a (h : HC B M σ) : HA B M σ := h.1
theorem ha_gt {f : St → St} (h : HA B M σ) (hf : σ.2.2 = 0 → σ.2.1 < L → AW B M (f σ.1) (σ.2.1 + 1)) : HA B M (gt L f σ) := by
  unfold gt
  by_cases q : σ.2.2 = 0
  · rw [if_pos q]
    by_cases q2 : L ≤ σ.2.1
    · rw [if_pos q2]; exact h
    · rw [if_neg q2]; exact hf q (by omega)
  · rw [if_neg q]; exact h
theorem ha_up {c : Nat} (hBL : B + L < 2 ^ 30) (h : HA B M σ) (hc : c < 64) : HA B M (addc L c (nI 1) σ) := by
  unfold addc
  split
  · exact h
  · exact ha_gt h (fun _ hn => ⟨wf_cnt h.1 (fun j hj => upd_hi hc hj), bd_up (m := B + σ.2.1) h.2.1 (by omega) hc, (lo_same (by omega)).1.trans h.2.2⟩)
theorem ha_dn {c : Nat} (hBL : B + L < 2 ^ 30) (h : HA B M σ) (hc : c < 64) : HA B M (addc L c (-1) σ) := by
  unfold addc
  split
  · exact h
  · exact ha_gt h (fun _ hn => ⟨wf_cnt h.1 (fun j hj => upd_hi hc hj), bd_dn (m := B + σ.2.1) h.2.1 (by omega) hc, (lo_same (by omega)).1.trans h.2.2⟩)
theorem rlk_a {t : Nat} (hBL : B + L < 2 ^ 30) : ∀ f k (σ : Sg), HA B M σ → HA B M (rlk L t f k σ)
  | 0, _, _, h => h
  | f + 1, k, σ, h => by
    unfold rlk
    split
    · exact rlk_a hBL f (k + 1) _ (ha_dn hBL h (dt_lt _ _ _))
    · exact h
theorem rel1_a {t : Nat} (hBL : B + L < 2 ^ 30) (ht : t < 64) (h : HA B M σ) : HA B M (rel1 L t σ) := by
  unfold rel1
  split
  · exact h
  · exact rlk_a hBL 4 0 _ (ha_dn hBL h ht)
theorem rlF_a {T : Nat → Nat} (hBL : B + L < 2 ^ 30) (hT : ∀ i, T i < 64) (h : HA B M σ) : ∀ i, HA B M (rlF L T i σ)
  | 0 => h
  | i + 1 => rel1_a hBL (hT i) (rlF_a hBL hT h i)
theorem csF_a {dd : Nat} (hBL : B + L < 2 ^ 30) (h : HA B M σ) : ∀ i, HA B M (csF L dd i σ)
  | 0 => h
  | i + 1 => ha_up hBL (csF_a hBL h i) (tb_lt _ _ _)
/-- directories are copied or put away: no more is named -/
theorem wf_less (h : WF S) (hlo : ∀ j, j < 327 → S' j = S j) (h9 : S' 399 = S 399)
    (hf : ∀ s, s < 8 → S' (383 + s) = nI 0 ∨ S' (383 + s) = nI 1)
    (hd : ∀ d k, d < 14 → k < 4 → prs S' d = true → ∃ n, (n = 0 ∨ nam S n) ∧ S' (327 + 4 * d + k) = nI n)
    (ha : ∀ l, mn S ≤ l → l < 6 → ∀ k, k < 4 → S' (327 + 4 * l + k) = nI 0)
    (hs : ∀ s, s < 8 → S' (383 + s) = nI 1 → ∃ l, l < mn S ∧ S' (391 + s) = nI l) : WF S' := by
  have n64 : ∀ n, (n = 0 ∨ nam S n) → n < 64 := fun n hn => hn.elim (fun e => by omega) (fun e => (nam_lt e).2)
  have htb : ∀ d k n, prs S' d = true → (n = 0 ∨ nam S n) → S' (327 + 4 * d + k) = nI n → tb S' d k = n := fun d k n hp hn he => by
    unfold tb
    rw [if_pos hp, he, cl_n (n64 n hn)]
  have hnm : ∀ t, nam S' t → nam S t := by
    rintro t ⟨h0, d, k, -, h2, h3, h4⟩
    have hp : prs S' d = true := by
      rcases Bool.eq_false_or_eq_true (prs S' d) with e | e
      · exact e
      · unfold tb at h4
        rw [e] at h4
        exact absurd h4.symm h0
    obtain ⟨n, hn, he⟩ := hd d k h2 h3 hp
    rw [htb d k n hp hn he] at h4
    subst h4
    exact hn.resolve_left h0
  refine wf_dirs h hlo h9 hf (fun d k h1 h2 hp => ?_) ha hs (fun t ht => ⟨h.cn (hnm t ht), fun k hk z => h.nd (hnm t ht) hk (hnm _ z)⟩)
  obtain ⟨n, hn, he⟩ := hd d k h1 h2 hp
  rw [he, htb d k n hp hn he]
theorem tbn {d k : Nat} (hd : d < 14) (hk : k < 4) : tb S d k = 0 ∨ nam S (tb S d k) := by
  by_cases q : tb S d k = 0
  · exact Or.inl q
  · exact Or.inr (nam_tb hd hk q)
theorem prs_hi {d : Nat} (h6 : 6 ≤ d) : prs S d = decide (S (377 + d) = nI 1) := by
  unfold prs
  rw [if_neg (by omega)]
theorem prs_lo {d : Nat} (h6 : d < 6) : prs S d = decide (d < mn S) := by
  unfold prs
  rw [if_pos h6]
theorem wf_rec {l s : Nat} (h : WF S) (hl : l < mn S) (hs : s < 8) : WF (wrec S l s) := by
  have h6 := h.m
  have e : ∀ j, j ≠ 383 + s → j ≠ 391 + s → ¬ (351 + 4 * s ≤ j ∧ j < 351 + 4 * s + 4) → wrec S l s j = S j := fun j a b c => by unfold wrec; rw [if_neg a, if_neg b, if_neg c]
  have e1 : wrec S l s (383 + s) = nI 1 := if_pos rfl
  have e2 : wrec S l s (391 + s) = nI l := by unfold wrec; rw [if_neg (by omega), if_pos rfl]
  have e3 : ∀ k, k < 4 → wrec S l s (327 + 4 * (6 + s) + k) = S (327 + 4 * l + k) := fun k hk => by
    unfold wrec
    rw [if_neg (by omega), if_neg (by omega), if_pos (by omega)]
    congr 1
    omega
  have em : mn (wrec S l s) = mn S := by unfold mn; rw [e _ (by omega) (by omega) (by omega)]
  refine wf_less h (fun j hj => e j (by omega) (by omega) (by omega)) (e _ (by omega) (by omega) (by omega)) (fun s' hs' => ?_) (fun d k hd hk hp => ?_) (fun l' h1 h2 k hk => ?_) (fun s' hs' he => ?_)
  · by_cases q : s' = s
    · subst q; rw [e1]; exact Or.inr rfl
    · rw [e _ (by omega) (by omega) (by omega)]; exact h.fl s' hs'
  · by_cases q : d = 6 + s
    · subst q
      rw [e3 k hk]
      exact ⟨_, tbn (by omega) hk, h.dr (by omega) hk (prs_lay hl (by omega))⟩
    · rw [e _ (by omega) (by omega) (by omega)]
      refine ⟨_, tbn hd hk, h.dr hd hk ?_⟩
      by_cases q6 : d < 6
      · rw [prs_lo q6] at hp ⊢
        rw [em] at hp; exact hp
      · rw [prs_hi (by omega)] at hp ⊢
        rw [e _ (by omega) (by omega) (by omega)] at hp; exact hp
  · rw [e _ (by omega) (by omega) (by omega)]; exact h.ab l' h1 h2 k hk
  · by_cases q : s' = s
    · subst q; rw [e2]; exact ⟨l, hl, rfl⟩
    · rw [e _ (by omega) (by omega) (by omega)] at he ⊢
      exact h.sn s' hs' he
theorem wf_drop {s : Nat} (h : WF S) (hs : s < 8) : WF (upd S (383 + s) (nI 0)) := by
  have em : mn (upd S (383 + s) (nI 0)) = mn S := by unfold mn; rw [pk_un (by omega)]
  refine wf_less h (fun j hj => pk_un (by omega)) (pk_un (by omega)) (fun s' hs' => ?_) (fun d k hd hk hp => ?_) (fun l' h1 h2 k hk => ?_) (fun s' hs' he => ?_)
  · by_cases q : s' = s
    · subst q; rw [pk_us]; exact Or.inl rfl
    · rw [pk_un (by omega)]; exact h.fl s' hs'
  · rw [pk_un (by omega)]
    refine ⟨_, tbn hd hk, h.dr hd hk ?_⟩
    by_cases q6 : d < 6
    · rw [prs_lo q6] at hp ⊢
      rw [em] at hp; exact hp
    · rw [prs_hi (by omega)] at hp ⊢
      by_cases q : 377 + d = 383 + s
      · rw [q, pk_us] at hp
        exact absurd hp (by decide)
      · rw [pk_un (by omega)] at hp; exact hp
  · rw [pk_un (by omega)]; exact h.ab l' h1 h2 k hk
  · by_cases q : s' = s
    · subst q; rw [pk_us] at he; exact absurd he (by decide)
    · rw [pk_un (by omega)] at he ⊢
      exact h.sn s' hs' he
/-- a layer's directory becomes other numbers that are named, or 0 -/
theorem wf_ldir {l : Nat} (h : WF S) (hl : l < mn S) (ho : ∀ j, ¬ (327 + 4 * l ≤ j ∧ j < 327 + 4 * l + 4) → S' j = S j) (hn : ∀ k, k < 4 → ∃ n, (n = 0 ∨ nam S n) ∧ S' (327 + 4 * l + k) = nI n) : WF S' := by
  have h6 := h.m
  have em : mn S' = mn S := by unfold mn; rw [ho _ (by omega)]
  refine wf_less h (fun j hj => ho _ (by omega)) (ho _ (by omega)) (fun s' hs' => ?_) (fun d k hd hk hp => ?_) (fun l' h1 h2 k hk => ?_) (fun s' hs' he => ?_)
  · rw [ho _ (by omega)]; exact h.fl s' hs'
  · by_cases q : d = l
    · subst q; exact hn k hk
    · rw [ho _ (by omega)]
      refine ⟨_, tbn hd hk, h.dr hd hk ?_⟩
      by_cases q6 : d < 6
      · rw [prs_lo q6] at hp ⊢
        rw [em] at hp; exact hp
      · rw [prs_hi (by omega)] at hp ⊢
        rw [ho _ (by omega)] at hp; exact hp
  · rw [ho _ (by omega)]; exact h.ab l' h1 h2 k hk
  · rw [ho _ (by omega)] at he ⊢
    exact h.sn s' hs' he
end DEH
