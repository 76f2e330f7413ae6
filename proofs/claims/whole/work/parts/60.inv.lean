/-! ===== the invariant of the whole object ===== -/
section INV
variable {B : Nat} {S : St} {g : Gs}
def JG (B : Nat) (g : Gs) : Prop := WF g.1 ∧ BD g.1 B ∧ (g.2.2.1 = true → WF g.2.1 ∧ BD g.2.1 B) ∧ (∀ j, j < g.2.2.2.2.2.1 → g.2.2.2.2.2.2 j < 256) ∧ g.2.2.2.2.2.1 ≤ 120
theorem BD.w {m m' : Nat} (h : BD S m) (hm : m ≤ m') : BD S m' := bd_hi h (fun _ _ => rfl) hm
theorem JG.w {B' : Nat} (h : JG B g) (hB : B ≤ B') : JG B' g := ⟨h.1, h.2.1.w hB, fun z => ⟨(h.2.2.1 z).1, (h.2.2.1 z).2.w hB⟩, h.2.2.2⟩
theorem wf_W0 (h : WF S) : W0 S := by
  refine ⟨fun s hs => ?_, fun l hl => wf_bk h hl⟩
  unfold sn
  split
  · rename_i e
    exact Or.inr (h.sn s hs e)
  · exact Or.inl rfl
theorem JG.gi (h : JG B g) : GI g := ⟨wf_W0 h.1, h.1.te, fun l h1 h2 k hk => h.1.ab l h1 h2 k hk⟩
theorem lk_C0 (h : lk S = false) : C0 S := by
  intro c h1 h2
  unfold lk at h
  rw [dec_f] at h
  have h3 : ¬ S c < nI (tru S c) := fun z => h ⟨c, h2, by unfold lackP; rw [dec_t]; exact ⟨h1, z⟩⟩
  have h4 := Int32.le_iff_toInt_le.mp (Int32.not_lt.mp h3)
  have h5 := tru_le S c
  rw [nI_toInt (by omega), tru_tot] at h4
  omega
theorem wf_tear {v : Int32} (h : WF S) (hv : v = -1 ∨ ∃ t, t ≤ 999 ∧ v = nI t) : WF (upd S 399 v) := by
  have hlo : ∀ j, j ≠ 399 → upd S 399 v j = S j := fun j hj => pk_un hj
  have em : mn (upd S 399 v) = mn S := by unfold mn; rw [pk_un (by omega)]
  have ep : ∀ d, d < 14 → prs (upd S 399 v) d = prs S d := fun d hd => by
    unfold prs
    rw [em]
    split
    · rfl
    · rw [pk_un (by omega)]
  have et : ∀ d k, d < 14 → k < 4 → tb (upd S 399 v) d k = tb S d k := fun d k hd hk => by
    unfold tb
    rw [ep d hd, pk_un (by omega)]
  have en : ∀ t, nam (upd S 399 v) t ↔ nam S t := by
    intro t
    constructor
    · rintro ⟨h0, d, k, a1, a2, a3, a4⟩
      exact ⟨h0, d, k, a1, a2, a3, by rw [← et d k a2 a3]; exact a4⟩
    · rintro ⟨h0, d, k, a1, a2, a3, a4⟩
      exact ⟨h0, d, k, a1, a2, a3, by rw [et d k a2 a3]; exact a4⟩
  have ed : ∀ t k, t < 64 → k < 4 → dt (upd S 399 v) t k = dt S t k := fun t k ht hk => by unfold dt; rw [pk_un (by omega)]
  have h6 := h.m
  refine ⟨⟨by rw [em]; exact h.m, by rw [em, pk_un (by omega)]; exact h.m2⟩, fun s hs => ?_, fun d k hd hk hp => ?_, fun l' h1 h2 k hk => ?_, fun t ht => ⟨fun k hk => ?_, fun k hk => ?_⟩, fun k hk => ?_, fun l' hl' => ?_, ?_, fun s hs he => ?_, ?_⟩
  · rw [pk_un (by omega)]; exact h.fl s hs
  · rw [pk_un (by omega), et d k hd hk]; exact h.dr hd hk (by rw [← ep d hd]; exact hp)
  · rw [pk_un (by omega)]; exact h.ab l' (by rw [← em]; exact h1) h2 k hk
  · have := (nam_lt ht).2
    rw [pk_un (by omega)]; exact h.cn ((en t).mp ht) k hk
  · rw [ed t k (nam_lt ht).2 hk, en]; exact h.nd ((en t).mp ht) hk
  · rw [pk_un (by omega)]; exact h.z k hk
  · rw [em] at hl' ⊢
    rw [pk_un (by omega)]; exact h.b l' hl'
  · obtain ⟨r, hr⟩ := h.ac
    refine ⟨r, fun l b h1 h2 h3 => ?_⟩
    rw [em] at h1 h2
    rw [pk_un (by omega)] at h3
    exact hr l b h1 h2 h3
  · rw [pk_un (by omega)] at he ⊢
    rw [em]
    exact h.sn s hs he
  · unfold wT
    rw [pk_us]
    exact hv
theorem act_a {kd L : Nat} {a b c : Int32} (hw : WF S) (hb : BD S B) (hBL : B + L < 2 ^ 30) (hkd : kd < 8) (hf : fit S kd a b c) (hl : lk S = false) (hh : ¬ hin S kd a) (hr : rnd S kd a b = false) : HA B (mn S) (act S kd a b c L (S, 0, 0)) := by
  have hA : HA B (mn S) ((S, 0, 0) : Sg) := ⟨hw, hb, rfl⟩
  have hC : HC B (mn S) ((S, 0, 0) : Sg) := ⟨hA, fun _ => lk_C0 hl⟩
  have hm6 := hw.m
  rcases (show kd = 0 ∨ kd = 1 ∨ kd = 2 ∨ kd = 3 ∨ kd = 4 ∨ kd = 5 ∨ kd = 6 ∨ kd = 7 by omega) with rfl | rfl | rfl | rfl | rfl | rfl | rfl | rfl
  · obtain ⟨k1, g1, rfl⟩ := okL_n hf.1 hm6
    obtain ⟨k2, g2, rfl⟩ := okN_n hf.2.1 (by decide)
    unfold act
    rw [nI_clamp (by omega), nI_clamp (by omega)]
    exact (wpl_c hBL hC g1 g2).a
  · obtain ⟨k1, g1, rfl⟩ := okL_n hf hm6
    obtain ⟨s1, s2, s3⟩ := lms_ok S
    have s8 : lms S < 8 := by
      rcases Nat.lt_or_ge (lms S) 8 with q | q
      · exact q
      · exact absurd (Or.inl ⟨rfl, fun j hj => s2 j (by omega)⟩) hh
    unfold act
    rw [nI_clamp (by omega)]
    exact snp_a hBL hA g1 s8
  · obtain ⟨k1, g1, rfl⟩ := okN_n hf.1 (by decide)
    unfold act
    rw [nI_clamp (by omega)]
    exact drp_a hBL hA g1
  · obtain ⟨k1, g1, rfl⟩ := okN_n hf.1 (by decide)
    have g2 := hf.2
    rw [nI_clamp (by omega)] at g2
    obtain ⟨l, hl2, el⟩ := ((wf_W0 hw).1 k1 g1).resolve_left g2
    unfold act
    rw [nI_clamp (by omega), el, nI_clamp (by omega)]
    exact rvt_a hBL hA hl2 g1 (prs_sn el (by omega))
  · obtain ⟨k1, g1, rfl⟩ := okL_n hf.1 hm6
    obtain ⟨k2, g2, rfl⟩ := okN_n hf.2 (by decide)
    unfold act
    rw [nI_clamp (by omega), nI_clamp (by omega)]
    exact gvu_a hBL hC g1 g2
  · obtain ⟨k1, g1, rfl⟩ := okL_n hf hm6
    have g2 : ¬ bk S k1 = -1 := fun z => hh (Or.inr ⟨rfl, by rw [nI_clamp (by omega)]; exact z⟩)
    obtain ⟨bb, hb2, eb⟩ := (wf_bk hw g1).resolve_left g2
    unfold act
    rw [nI_clamp (by omega), eb, nI_clamp (by omega)]
    exact mrg_a hBL hC g1 hb2
  · exact fol_a hBL hA
  · obtain ⟨k1, g1, rfl⟩ := okL_n hf.1 hm6
    unfold act
    rw [nI_clamp (by omega)]
    refine mov_a hBL hC g1 ?_ ?_
    · rcases hf.2.1 with z | z
      · exact Or.inl z
      · obtain ⟨k2, g2, rfl⟩ := okL_n z hm6
        exact Or.inr ⟨k2, g2, rfl⟩
    · unfold rnd at hr
      simpa using hr
theorem te_L (h : wT S) : S 399 = -1 ∨ (S 399).toNatClampNeg ≤ 1000000 := by
  rcases h with e | ⟨t, ht, e⟩
  · exact Or.inl e
  · rw [e, nI_clamp (by omega)]
    exact Or.inr (by omega)
theorem jg_rf {j : Nat} (h : JG B g) : JG B (rfA g j).2 := h
theorem jg_deed {kd : Nat} {a b c : Int32} (h : JG B g) (hB : B < 2 ^ 29) (hkd : kd < 8) : JG (B + 900) (aDeed g kd a b c).2 := by
  have h0 : JG (B + 900) g := h.w (by omega)
  unfold aDeed
  split
  · rename_i hf
    rw [dec_t] at hf
    split
    · exact h0
    · rename_i hl
      rw [Bool.or_eq_true, dec_t] at hl
      split
      · exact h0
      · rename_i hr
        split
        · exact h0
        · have hl1 : lk g.1 = false := by simpa using (fun z => hl (Or.inl z))
          have hr1 : rnd g.1 kd a b = false := by simpa using hr
          have h2 : HA B (mn g.1) (tau2 g.1 kd a b c) ∧ (tau2 g.1 kd a b c).2.1 ≤ 900 := by
            unfold tau2
            split
            · refine ⟨act_a h.1 h.2.1 (by omega) hkd hf hl1 (fun z => hl (Or.inr z)) hr1, ?_⟩
              have := n_act (S := g.1) (kd := kd) (a := a) (b := b) (c := c) (L := 1000000) (σ := ((g.1, 0, 0) : Sg))
              unfold tau
              omega
            · rename_i ht
              have := (te_L h.1.te).resolve_left ht
              refine ⟨act_a h.1 h.2.1 (by omega) hkd hf hl1 (fun z => hl (Or.inr z)) hr1, ?_⟩
              have := n_act (S := g.1) (kd := kd) (a := a) (b := b) (c := c) (L := (g.1 399).toNatClampNeg) (σ := ((g.1, 0, 0) : Sg))
              omega
          obtain ⟨h3, h4⟩ := h2
          generalize tau2 g.1 kd a b c = τ at h3 h4 ⊢
          refine ⟨wf_tear h3.1 (Or.inl rfl), bd_hi h3.2.1 (fun c hc => pk_un (by omega)) (by omega), h0.2.2⟩
  · exact h0
end INV
