/-! ===== a deed's single writes keep it so ===== -/
def CN (S : St) (E : Nat → Nat) : Prop := ∀ c, 1 ≤ c → c < 64 → ((tot (rfc S) (dt S) c + E c : Nat) : Int) ≤ (S c).toInt
def BD (S : St) (m : Nat) : Prop := ∀ c, c < 64 → -(m : Int) ≤ (S c).toInt ∧ (S c).toInt ≤ (m : Int)
def HQ (A P : St → Nat → Prop) (σ : Sg) : Prop := A σ.1 σ.2.1 ∧ (σ.2.2 = 0 → P σ.1 σ.2.1)
def AW (B M : Nat) (S : St) (n : Nat) : Prop := WF S ∧ BD S (B + n) ∧ mn S = M
def C0 (S : St) : Prop := CN S (fun _ => 0)
section HOA
variable {A P P' : St → Nat → Prop} {L B M : Nat} {σ : Sg} {S S' : St}
theorem hq_gt {f : St → St} (h : HQ A P σ) (hf : ∀ S n, A S n → P S n → n < L → A (f S) (n + 1) ∧ P' (f S) (n + 1)) : HQ A P' (gt L f σ) := by
  unfold gt
  by_cases q : σ.2.2 = 0
  · rw [if_pos q]
    by_cases q2 : L ≤ σ.2.1
    · rw [if_pos q2]
      exact ⟨h.1, fun z => absurd z (show ¬ (1 : Nat) = 0 by decide)⟩
    · rw [if_neg q2]
      have := hf σ.1 σ.2.1 h.1 (h.2 q) (by omega)
      exact ⟨this.1, fun _ => this.2⟩
  · rw [if_neg q]
    exact ⟨h.1, fun z => absurd z q⟩
theorem hq_w {Q : St → Nat → Prop} (h : HQ A P σ) (hw : ∀ S n, A S n → P S n → Q S n) : HQ A Q σ := ⟨h.1, fun z => hw _ _ h.1 (h.2 z)⟩
theorem i1 : (nI 1).toInt = 1 := by decide
theorem im1 : (-1 : Int32).toInt = -1 := by decide
theorem bd_up {c m : Nat} (hB : BD S m) (hm : m < 2 ^ 30) (hc : c < 64) : BD (upd S c (S c + nI 1)) (m + 1) := by
  intro x hx
  have h1 := hB x hx
  by_cases q : x = c
  · subst q
    rw [pk_us, fb_addI (by rw [i1]; omega) (by rw [i1]; omega), i1]
    omega
  · rw [pk_un q]; omega
theorem bd_dn {c m : Nat} (hB : BD S m) (hm : m < 2 ^ 30) (hc : c < 64) : BD (upd S c (S c + (-1))) (m + 1) := by
  intro x hx
  have h1 := hB x hx
  by_cases q : x = c
  · subst q
    rw [pk_us, fb_addI (by rw [im1]; omega) (by rw [im1]; omega), im1]
    omega
  · rw [pk_un q]; omega
theorem bd_hi {m m' : Nat} (hB : BD S m) (h : ∀ c, c < 64 → S' c = S c) (hm : m ≤ m') : BD S' m' := by
  intro x hx
  have h1 := hB x hx
  rw [h x hx]; omega
theorem bd_1 {c m : Nat} (hB : BD S m) : BD (upd S c (nI 1)) (m + 1) := by
  intro x hx
  have h1 := hB x hx
  by_cases q : x = c
  · subst q
    rw [pk_us, i1]; omega
  · rw [pk_un q]; omega
/-- counts alone: nothing is named otherwise -/
theorem tot_cnt {S S' : St} (h : ∀ j, 64 ≤ j → S' j = S j) {c : Nat} : tot (rfc S') (dt S') c = tot (rfc S) (dt S) c := by
  obtain ⟨-, -, e3, e4, -⟩ := hi_same h
  have : rfc S' = rfc S := funext (fun c => rfc_tb (fun d k _ _ => e3 d k) c)
  have h2 : dt S' = dt S := funext (fun t => funext (fun k => e4 t k))
  rw [this, h2]
theorem upd_hi {c j : Nat} {v : Int32} (hc : c < 64) (hj : 64 ≤ j) : upd S c v j = S j := pk_un (by omega)
theorem cn_up {E : Nat → Nat} {c m : Nat} (h : CN S E) (hB : BD S m) (hm : m < 2 ^ 30) (hc : c < 64) : CN (upd S c (S c + nI 1)) (fun x => E x + icn c x) := by
  intro x h1 h2
  rw [tot_cnt (S := S) (fun j hj => upd_hi hc hj)]
  have h3 := h x h1 h2
  dsimp only at h3 ⊢
  have h4 := hB x h2
  by_cases q : x = c
  · subst q
    rw [pk_us, fb_addI (by rw [i1]; omega) (by rw [i1]; omega), i1, icn_s]
    omega
  · rw [pk_un q, icn_n (Ne.symm q)]; omega
theorem cn_dn {E : Nat → Nat} {c m : Nat} (h : CN S (fun x => E x + icn c x)) (hB : BD S m) (hm : m < 2 ^ 30) (hc : c < 64) : CN (upd S c (S c + (-1))) E := by
  intro x h1 h2
  rw [tot_cnt (S := S) (fun j hj => upd_hi hc hj)]
  have h3 := h x h1 h2
  dsimp only at h3 ⊢
  have h4 := hB x h2
  by_cases q : x = c
  · subst q
    rw [icn_s] at h3
    rw [pk_us, fb_addI (by rw [im1]; omega) (by rw [im1]; omega), im1]
    omega
  · rw [icn_n (Ne.symm q)] at h3
    rw [pk_un q]; omega
theorem cn_w {E E' : Nat → Nat} (h : CN S E) (hE : ∀ c, 1 ≤ c → c < 64 → E' c ≤ E c) : CN S E' := fun c h1 h2 => by
  have := h c h1 h2
  have := hE c h1 h2
  omega
/-- a cluster that is named by nothing -/
theorem cn_fr {E : Nat → Nat} {n : Nat} (h : CN S E) (h1 : 1 ≤ n) (h2 : n < 64) (hs : (S n).toInt ≤ E n) : ¬ nam S n ∧ ∀ t k, nam S t → k < 4 → dt S t k ≠ n := by
  have h3 := h n h1 h2
  have h0 : tot (rfc S) (dt S) n = 0 := by omega
  obtain ⟨a1, a2⟩ := tot_0 h0
  refine ⟨fun z => ?_, fun t k ht hk => ?_⟩
  · have := (isT_rfc.mp z).2
    omega
  · exact a2 t k (nam_lt ht).1 (nam_lt ht).2 (isT_rfc.mp ht).2 hk
theorem nw_0 (h : nw S < 64) : S (nw S) = 0 := by
  have : ∀ f c, c + f = 64 → nwf S f c < 64 → S (nwf S f c) = 0 := by
    intro f
    induction f with
    | zero =>
      intro c hc hl
      unfold nwf at hl
      omega
    | succ f ih =>
      intro c hc hl
      unfold nwf at hl ⊢
      split
      · assumption
      · rename_i e
        rw [if_neg e] at hl
        exact ih (c + 1) (by omega) hl
  exact this 63 1 rfl h
/-- a cluster's count becomes 1 -/
theorem cn_new {n : Nat} (h : C0 S) (h2 : n < 64) (hs : S n = 0) : CN (upd S n (nI 1)) (icn n) := by
  intro x h1 h3
  rw [tot_cnt (S := S) (fun j hj => upd_hi h2 hj)]
  have h4 := h x h1 h3
  by_cases q : x = n
  · subst q
    rw [hs] at h4
    have e0 : (0 : Int32).toInt = 0 := by decide
    rw [e0] at h4
    rw [pk_us, i1, icn_s]
    omega
  · rw [pk_un q, icn_n (Ne.symm q)]; omega
theorem cn_lo {E : Nat → Nat} (h : CN S E) (hc : ∀ c, c < 64 → S' c = S c) (ht : ∀ c, 1 ≤ c → c < 64 → tot (rfc S') (dt S') c = tot (rfc S) (dt S) c) : CN S' E := fun c h1 h2 => by
  rw [hc c h2, ht c h1 h2]
  exact h c h1 h2
/-- cells of a cluster that is no table -/
theorem tot_unn {m c : Nat} (hm : ¬ nam S m) (hh : ∀ j, ¬ (64 + 4 * m ≤ j ∧ j < 64 + 4 * m + 4) → S' j = S j) (h2 : m < 64) (hc : 1 ≤ c) (hc2 : c < 64) : tot (rfc S') (dt S') c = tot (rfc S) (dt S) c := by
  have e5 := (tb_hi (S := S) (S' := S') (fun j hj => hh j (by omega))).2.2.2.2
  refine tot_cg hc hc2 (fun t _ _ => e5 t) (fun t h1 h2 h3 k hk => ?_)
  rw [e5] at h3
  have hne : t ≠ m := fun e => hm (by rw [← e]; exact isT_rfc.mpr ⟨by omega, h3⟩)
  unfold dt
  rw [hh _ (by omega)]
theorem cp4_out {a b j : Nat} (h : ¬ (64 + 4 * b ≤ j ∧ j < 64 + 4 * b + 4)) : cp4 S a b j = S j := if_neg h
theorem cp4_in {a b k : Nat} (hk : k < 4) : cp4 S a b (64 + 4 * b + k) = S (64 + 4 * a + k) := by
  unfold cp4
  rw [if_pos (by omega)]
  congr 1
  omega
theorem aw_bd {S' : St} {n : Nat} (h : AW B M S n) (hw : WF S') (hc : ∀ c, c < 64 → S' c = S c) (hm : mn S' = mn S) : AW B M S' (n + 1) := ⟨hw, bd_hi h.2.1 hc (by omega), hm.trans h.2.2⟩
theorem hq_up {E : Nat → Nat} {c : Nat} {F : St → Prop} (hBL : B + L < 2 ^ 30) (h : HQ (AW B M) (fun S _ => CN S E ∧ F S) σ) (hc : c < 64) (hF : ∀ S v, F S → F (upd S c v)) : HQ (AW B M) (fun S _ => CN S (fun x => E x + icn c x) ∧ F S) (addc L c (nI 1) σ) := by
  unfold addc
  by_cases q : c = 0
  · rw [if_pos q]
    refine hq_w h (fun S n _ hp => ⟨cn_w hp.1 (fun x h1 _ => ?_), hp.2⟩)
    rw [q, icn_n (by omega)]; omega
  · rw [if_neg q]
    refine hq_gt h (fun S n ha hp hn => ⟨⟨wf_cnt ha.1 (fun j hj => upd_hi hc hj), bd_up (m := B + n) ha.2.1 (by omega) hc, ?_⟩, cn_up (m := B + n) hp.1 ha.2.1 (by omega) hc, hF _ _ hp.2⟩)
    exact (lo_same (by omega)).1.trans ha.2.2
theorem hq_dn {E : Nat → Nat} {c : Nat} {F : St → Prop} (hBL : B + L < 2 ^ 30) (h : HQ (AW B M) (fun S _ => CN S (fun x => E x + icn c x) ∧ F S) σ) (hc : c < 64) (hF : ∀ S v, F S → F (upd S c v)) : HQ (AW B M) (fun S _ => CN S E ∧ F S) (addc L c (-1) σ) := by
  unfold addc
  by_cases q : c = 0
  · rw [if_pos q]
    exact hq_w h (fun S n _ hp => ⟨cn_w hp.1 (fun x h1 _ => Nat.le_add_right _ _), hp.2⟩)
  · rw [if_neg q]
    refine hq_gt h (fun S n ha hp hn => ⟨⟨wf_cnt ha.1 (fun j hj => upd_hi hc hj), bd_dn (m := B + n) ha.2.1 (by omega) hc, ?_⟩, cn_dn (m := B + n) hp.1 ha.2.1 (by omega) hc, hF _ _ hp.2⟩)
    exact (lo_same (by omega)).1.trans ha.2.2
/-- what is kept beside the counts: all from 64 on -/
def eqHi (S0 S : St) : Prop := ∀ j, 64 ≤ j → S j = S0 j
theorem sum4 {f : Nat → Nat} : fb_sm f 4 = f 0 + f 1 + f 2 + f 3 := by
  show 0 + f 0 + f 1 + f 2 + f 3 = _
  omega
end HOA
