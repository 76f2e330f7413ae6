section CHN
variable {S S' : St}
theorem ac_r (h : WF S) : ∃ r : Nat → Nat, (∀ l, l < mn S → r l < 6) ∧ ∀ l b, l < mn S → b < mn S → S (321 + l) = nI b → r b < r l := by
  obtain ⟨r, hr⟩ := h.ac
  have h6 := h.m
  refine ⟨fun l => fb_ct (fun x => decide (r x < r l)) (mn S), fun l hl => ?_, fun l b hl hb he => ?_⟩
  · have h1 := fb_ct_not (fun x => decide (r x < r l)) (mn S)
    have h2 : 0 < fb_ct (fun k => !(fun x => decide (r x < r l)) k) (mn S) := fb_ct_pos.mpr ⟨l, hl, by simp⟩
    dsimp only at h1 h2 ⊢
    omega
  · have h3 := hr l b hl hb he
    have h1 : fb_ct (fun k => (fun x => decide (r x < r b)) k || (fun x => decide (x = b)) k) (mn S) = fb_ct (fun x => decide (r x < r b)) (mn S) + fb_ct (fun x => decide (x = b)) (mn S) := by
      apply fb_ct_or
      intro k _
      simp only [decide_eq_true_eq]
      rintro ⟨a, rfl⟩
      omega
    have h2 : fb_ct (fun k => (fun x => decide (r x < r b)) k || (fun x => decide (x = b)) k) (mn S) ≤ fb_ct (fun x => decide (r x < r l)) (mn S) := by
      apply fb_ct_sub
      intro k _
      simp only [Bool.or_eq_true, decide_eq_true_eq]
      rintro (a | rfl)
      · omega
      · exact h3
    have h4 : 0 < fb_ct (fun x => decide (x = b)) (mn S) := fb_ct_pos.mpr ⟨b, hb, by simp⟩
    dsimp only
    omega
theorem bk_in {l : Nat} (hl : l < mn S) : bk S l = S (321 + l) := if_pos hl
theorem wf_bk (h : WF S) {l : Nat} (hl : l < mn S) : bk S l = -1 ∨ ∃ b, b < mn S ∧ bk S l = nI b := by
  rw [bk_in hl]
  exact h.b l hl
theorem in6 {l : Nat} (h : l < 6) : (0 ≤ nI l ∧ nI l < nI 6) := ⟨nI_pos' (by omega), nI_lt h (by decide)⟩
theorem ni6 : ¬ ((0 : Int32) ≤ -1 ∧ (-1 : Int32) < nI 6) := by decide
theorem rdf_m1 {f p : Nat} : rdf S f (-1) p = nI 0 := by
  cases f with
  | zero => rfl
  | succ f => unfold rdf; rw [if_neg ni6]
theorem sto_m1 {f : Nat} {y : Int32} : sto S f (-1) y = false := by
  cases f with
  | zero => rfl
  | succ f => unfold sto; rw [if_neg ni6]
theorem cbl_m1 {f : Nat} : cbl S f (-1) = 0 := by
  cases f with
  | zero => rfl
  | succ f => unfold cbl; rw [if_neg ni6]
theorem rdf_s {f l p : Nat} (hl : l < 6) : rdf S (f + 1) (nI l) p = if dof S l (p / 4) = 0 then rdf S f (bk S l) p else S (64 + (4 * dof S l (p / 4) + p % 4)) := by
  rw [rdf, if_pos (in6 hl), nI_clamp (by omega)]
theorem rdf_more (h : WF S) {p : Nat} {r : Nat → Nat} (hr : ∀ l b, l < mn S → b < mn S → S (321 + l) = nI b → r b < r l) : ∀ f l, l < mn S → r l < f → rdf S (f + 1) (nI l) p = rdf S f (nI l) p
  | 0, l, _, hf => absurd hf (by omega)
  | f + 1, l, hl, hf => by
    have h6 := h.m
    rw [rdf_s (by omega), rdf_s (by omega)]
    split
    · rcases wf_bk h hl with e | ⟨b, hb, e⟩
      · rw [e, rdf_m1, rdf_m1]
      · rw [e]
        rw [bk_in hl] at e
        exact rdf_more h hr f b hb (by have := hr l b hl hb e; omega)
    · rfl
theorem rdf_fix (h : WF S) {l p : Nat} (hl : l < mn S) : rdf S 6 (nI l) p = if dof S l (p / 4) = 0 then rdf S 6 (bk S l) p else S (64 + (4 * dof S l (p / 4) + p % 4)) := by
  obtain ⟨r, h1, h2⟩ := ac_r h
  have h6 := h.m
  rw [← rdf_more h h2 6 l hl (h1 l hl), rdf_s (by omega)]
theorem sto_s {f l : Nat} {y : Int32} (hl : l < 6) : sto S (f + 1) (nI l) y = if nI l = y then true else sto S f (bk S l) y := by
  rw [sto, if_pos (in6 hl), nI_clamp (by omega)]
theorem sto_more (h : WF S) {y : Int32} {r : Nat → Nat} (hr : ∀ l b, l < mn S → b < mn S → S (321 + l) = nI b → r b < r l) : ∀ f l, l < mn S → r l < f → sto S (f + 1) (nI l) y = sto S f (nI l) y
  | 0, l, _, hf => absurd hf (by omega)
  | f + 1, l, hl, hf => by
    have h6 := h.m
    rw [sto_s (by omega), sto_s (by omega)]
    split
    · rfl
    · rcases wf_bk h hl with e | ⟨b, hb, e⟩
      · rw [e, sto_m1, sto_m1]
      · rw [e]
        rw [bk_in hl] at e
        exact sto_more h hr f b hb (by have := hr l b hl hb e; omega)
theorem sto_fix (h : WF S) {l : Nat} {y : Int32} (hl : l < mn S) : sto S 6 (nI l) y = if nI l = y then true else sto S 6 (bk S l) y := by
  obtain ⟨r, h1, h2⟩ := ac_r h
  have h6 := h.m
  rw [← sto_more h h2 6 l hl (h1 l hl), sto_s (by omega)]
theorem cbl_s {f l : Nat} (hl : l < 6) : cbl S (f + 1) (nI l) = cbl S f (bk S l) + 1 := by
  rw [cbl, if_pos (in6 hl), nI_clamp (by omega)]
theorem cbl_more (h : WF S) {r : Nat → Nat} (hr : ∀ l b, l < mn S → b < mn S → S (321 + l) = nI b → r b < r l) : ∀ f l, l < mn S → r l < f → cbl S (f + 1) (nI l) = cbl S f (nI l)
  | 0, l, _, hf => absurd hf (by omega)
  | f + 1, l, hl, hf => by
    have h6 := h.m
    rw [cbl_s (by omega), cbl_s (by omega)]
    rcases wf_bk h hl with e | ⟨b, hb, e⟩
    · rw [e, cbl_m1, cbl_m1]
    · rw [e]
      rw [bk_in hl] at e
      rw [cbl_more h hr f b hb (by have := hr l b hl hb e; omega)]
theorem cbl_fix (h : WF S) {l : Nat} (hl : l < mn S) : cbl S 6 (nI l) = cbl S 6 (bk S l) + 1 := by
  obtain ⟨r, h1, h2⟩ := ac_r h
  have h6 := h.m
  rw [← cbl_more h h2 6 l hl (h1 l hl), cbl_s (by omega)]
/-- a layer is put on another backing on which nothing stands that stands on it -/
theorem wf_bkg {l : Nat} {y : Int32} (h : WF S) (hl : l < mn S) (hy : y = -1 ∨ ∃ b, b < mn S ∧ y = nI b) (hs : sto S 6 y (nI l) = false) : WF (upd S (321 + l) y) := by
  have h6 := h.m
  have e1 : mn (upd S (321 + l) y) = mn S := by unfold mn; rw [pk_un (by omega)]
  have e2 : ∀ d, prs (upd S (321 + l) y) d = prs S d := fun d => by
    unfold prs
    rw [e1]
    split
    · rfl
    · rw [pk_un (by omega)]
  have e3 : ∀ d k, tb (upd S (321 + l) y) d k = tb S d k := fun d k => by unfold tb; rw [e2, pk_un (by omega)]
  have e4 : ∀ t, nam (upd S (321 + l) y) t ↔ nam S t := fun t => by
    unfold nam isT
    simp only [e3]
  have ed : ∀ t k, t < 64 → k < 4 → dt (upd S (321 + l) y) t k = dt S t k := fun t k ht hk => by unfold dt; rw [pk_un (by omega)]
  refine ⟨⟨by rw [e1]; exact h.m, by rw [e1, pk_un (by omega)]; exact h.m2⟩, fun s hs => ?_, fun d k hd hk hp => ?_, fun l' h1 h2 k hk => ?_, fun t ht => ⟨fun k hk => ?_, fun k hk => ?_⟩, fun k hk => ?_, fun l' hl' => ?_, ?_, fun s hs he => ?_, ?_⟩
  · rw [pk_un (by omega)]; exact h.fl s hs
  · rw [pk_un (by omega), e3]; exact h.dr hd hk (by rw [← e2]; exact hp)
  · rw [pk_un (by omega)]; exact h.ab l' (by rw [← e1]; exact h1) h2 k hk
  · have := (nam_lt ht).2
    rw [pk_un (by omega)]; exact h.cn ((e4 t).mp ht) k hk
  · rw [ed t k (nam_lt ht).2 hk, e4]; exact h.nd ((e4 t).mp ht) hk
  · rw [pk_un (by omega)]; exact h.z k hk
  · rw [e1] at hl' ⊢
    by_cases q : l' = l
    · subst q; rw [pk_us]; exact hy
    · rw [pk_un (by omega)]; exact h.b l' hl'
  · obtain ⟨r, hr1, hr⟩ := ac_r h
    refine ⟨fun x => if sto S 6 (nI x) (nI l) = true then r x + 6 else r x, fun x b hx hb he => ?_⟩
    rw [e1] at hx hb
    dsimp only
    by_cases q : x = l
    · subst q
      rw [pk_us] at he
      rw [he] at hs
      rw [if_neg (by rw [hs]; decide), if_pos (by rw [sto_fix h hl, if_pos rfl])]
      have := hr1 b hb
      omega
    · rw [pk_un (by omega)] at he
      have h3 := hr x b hx hb he
      have h4 : sto S 6 (nI x) (nI l) = sto S 6 (nI b) (nI l) := by
        rw [sto_fix h hx, if_neg (by rw [n_eq (by omega) (by omega)]; exact q), bk_in hx, he]
      rw [h4]
      split <;> omega
  · rw [pk_un (by omega)] at he ⊢
    rw [e1]
    exact h.sn s hs he
  · have := h.te
    unfold wT at this ⊢
    rw [pk_un (by omega)]
    exact this
end CHN
