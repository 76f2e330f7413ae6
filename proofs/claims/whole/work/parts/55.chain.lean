section CHN
variable {S S' : St}
theorem ac_r (h : WF S) : ∃ r : Nat → Nat, (∀ l, l < mn S → r l < 6) ∧ ∀ l b, l < mn S → b < mn S → S (321 + l) = nI b → r b < r l := by
  obtain ⟨r, hr⟩ := h.ac
  have h6 := h.m
  refine ⟨fun l => fb_ct (fun x => decide (r x < r l)) (mn S), fun l hl => ?_, fun l b hl hb he => ?_⟩
  · have h1 := fb_ct_not (fun x => decide (r x < r l)) (mn S)
    have h2 : 0 < fb_ct (fun k => !(fun x => decide (r x < r l)) k) (mn S) := fb_ct_pos.mpr ⟨l, hl, by simp⟩
    dsimp only at h1 h2 ⊢
    omega
  · have h3 := hr l b hl hb he
    have h1 : fb_ct (fun k => (fun x => decide (r x < r b)) k || (fun x => decide (x = b)) k) (mn S) = fb_ct (fun x => decide (r x < r b)) (mn S) + fb_ct (fun x => decide (x = b)) (mn S) := by
      apply fb_ct_or
      intro k _
      simp only [decide_eq_true_eq]
      rintro ⟨a, rfl⟩
      omega
    have h2 : fb_ct (fun k => (fun x => decide (r x < r b)) k || (fun x => decide (x = b)) k) (mn S) ≤ fb_ct (fun x => decide (r x < r l)) (mn S) := by
      apply fb_ct_sub
      intro k _
      simp only [Bool.or_eq_true, decide_eq_true_eq]
      rintro (a | rfl)
      · omega
      · exact h3
    have h4 : 0 < fb_ct (fun x => decide (x = b)) (mn S) := fb_ct_pos.mpr ⟨b, hb, by simp⟩
    dsimp only
    omega
theorem bk_in {l : Nat} (hl : l < mn S) : bk S l = S (321 + l) := if_pos hl
theorem wf_bk (h : WF S) {l : Nat} (hl : l < mn S) : bk S l = -1 ∨ ∃ b, b < mn S ∧ bk S l = nI b := by
  rw [bk_in hl]
  exact h.b l hl
theorem in6 {l : Nat} (h : l < 6) : (0 ≤ nI l ∧ nI l < nI 6) := ⟨nI_pos' (by omega), nI_lt h (by decide)⟩
theorem ni6 : ¬ ((0 : Int32) ≤ -1 ∧ (-1 : Int32) < nI 6) := by decide
theorem rdf_m1 {f p : Nat} : rdf S f (-1) p = nI 0 := by
  cases f with
  | zero => rfl
  | succ f => unfold rdf; rw [if_neg ni6]
theorem sto_m1 {f : Nat} {y : Int32} : sto S f (-1) y = false := by
  cases f with
  | zero => rfl
  | succ f => unfold sto; rw [if_neg ni6]
theorem cbl_m1 {f : Nat} : cbl S f (-1) = 0 := by
  cases f with
  | zero => rfl
  | succ f => unfold cbl; rw [if_neg ni6]
theorem rdf_s {f l p : Nat} (hl : l < 6) : rdf S (f + 1) (nI l) p = if dof S l (p / 4) = 0 then rdf S f (bk S l) p else S (64 + (4 * dof S l (p / 4) + p % 4)) := by
  rw [rdf, if_pos (in6 hl), nI_clamp (by omega)]
theorem rdf_more (h : WF S) {p : Nat} {r : Nat → Nat} (hr : ∀ l b, l < mn S → b < mn S → S (321 + l) = nI b → r b < r l) : ∀ f l, l < mn S → r l < f → rdf S (f + 1) (nI l) p = rdf S f (nI l) p
  | 0, l, _, hf => absurd hf (by omega)
  | f + 1, l, hl, hf => by
    have h6 := h.m
    rw [rdf_s (by omega), rdf_s (by omega)]
    split
    · rcases wf_bk h hl with e | ⟨b, hb, e⟩
      · rw [e, rdf_m1, rdf_m1]
      · rw [e]
        rw [bk_in hl] at e
        exact rdf_more h hr f b hb (by have := hr l b hl hb e; omega)
    · rfl
theorem rdf_fix (h : WF S) {l p : Nat} (hl : l < mn S) : rdf S 6 (nI l) p = if dof S l (p / 4) = 0 then rdf S 6 (bk S l) p else S (64 + (4 * dof S l (p / 4) + p % 4)) := by
  obtain ⟨r, h1, h2⟩ := ac_r h
  have h6 := h.m
  rw [← rdf_more h h2 6 l hl (h1 l hl), rdf_s (by omega)]
end CHN
