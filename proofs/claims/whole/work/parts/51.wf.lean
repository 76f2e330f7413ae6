/-! ===== what holds of every state that can be ===== -/
def nam (S : St) (t : Nat) : Prop := isT S 0 14 t
def cln (S : St) (t : Nat) : Prop := ∀ k, k < 4 → S (64 + 4 * t + k) = nI (cl (S (64 + 4 * t + k)))
def AC (S : St) : Prop := ∃ r : Nat → Nat, ∀ l b, l < mn S → b < mn S → S (321 + l) = nI b → r b < r l
def WF (S : St) : Prop :=
  (mn S ≤ 6 ∧ S 320 = nI (mn S)) ∧
  (∀ s, s < 8 → S (383 + s) = nI 0 ∨ S (383 + s) = nI 1) ∧
  (∀ d k, d < 14 → k < 4 → prs S d = true → S (327 + 4 * d + k) = nI (tb S d k)) ∧
  (∀ l, mn S ≤ l → l < 6 → ∀ k, k < 4 → S (327 + 4 * l + k) = nI 0) ∧
  (∀ t, nam S t → cln S t ∧ ∀ k, k < 4 → ¬ nam S (dt S t k)) ∧
  (∀ k, k < 4 → S (64 + k) = nI 0) ∧
  (∀ l, l < mn S → S (321 + l) = -1 ∨ ∃ b, b < mn S ∧ S (321 + l) = nI b) ∧
  AC S ∧
  (∀ s, s < 8 → S (383 + s) = nI 1 → ∃ l, l < mn S ∧ S (391 + s) = nI l) ∧
  wT S
section WFS
variable {S S' : St}
theorem WF.m (h : WF S) : mn S ≤ 6 := h.1.1
theorem WF.m2 (h : WF S) : S 320 = nI (mn S) := h.1.2
theorem WF.fl (h : WF S) : ∀ s, s < 8 → S (383 + s) = nI 0 ∨ S (383 + s) = nI 1 := h.2.1
theorem WF.dr (h : WF S) {d k : Nat} (h1 : d < 14) (h2 : k < 4) (h3 : prs S d = true) : S (327 + 4 * d + k) = nI (tb S d k) := h.2.2.1 d k h1 h2 h3
theorem WF.ab (h : WF S) : ∀ l, mn S ≤ l → l < 6 → ∀ k, k < 4 → S (327 + 4 * l + k) = nI 0 := h.2.2.2.1
theorem WF.cn (h : WF S) {t : Nat} (ht : nam S t) : cln S t := (h.2.2.2.2.1 t ht).1
theorem WF.nd (h : WF S) {t k : Nat} (ht : nam S t) (hk : k < 4) : ¬ nam S (dt S t k) := (h.2.2.2.2.1 t ht).2 k hk
theorem WF.z (h : WF S) : ∀ k, k < 4 → S (64 + k) = nI 0 := h.2.2.2.2.2.1
theorem WF.b (h : WF S) : ∀ l, l < mn S → S (321 + l) = -1 ∨ ∃ b, b < mn S ∧ S (321 + l) = nI b := h.2.2.2.2.2.2.1
theorem WF.ac (h : WF S) : AC S := h.2.2.2.2.2.2.2.1
theorem WF.sn (h : WF S) : ∀ s, s < 8 → S (383 + s) = nI 1 → ∃ l, l < mn S ∧ S (391 + s) = nI l := h.2.2.2.2.2.2.2.2.1
theorem WF.te (h : WF S) : wT S := h.2.2.2.2.2.2.2.2.2
theorem nam_lt {t : Nat} (h : nam S t) : 1 ≤ t ∧ t < 64 := by
  obtain ⟨h0, d, k, -, h2, h3, h4⟩ := h
  have := tb_lt S d k
  omega
theorem nam_0 : ¬ nam S 0 := fun z => z.1 rfl
/-- who names what depends on the part from 320 on -/
theorem tb_hi (h : ∀ j, 320 ≤ j → S' j = S j) : mn S' = mn S ∧ (∀ d, prs S' d = prs S d) ∧ (∀ d k, tb S' d k = tb S d k) ∧ (∀ t, nam S' t ↔ nam S t) ∧ (∀ c, rfc S' c = rfc S c) := by
  have e1 : mn S' = mn S := by unfold mn; rw [h 320 (by omega)]
  have e2 : ∀ d, prs S' d = prs S d := fun d => by
    unfold prs
    rw [e1]
    split
    · rfl
    · rw [h _ (by omega)]
  have e3 : ∀ d k, tb S' d k = tb S d k := fun d k => by unfold tb; rw [e2, h _ (by omega)]
  refine ⟨e1, e2, e3, fun t => ?_, fun c => rfc_tb (fun d k _ _ => e3 d k) c⟩
  unfold nam isT
  simp only [e3]
/-- only cells below 320 change, of clusters that are no tables; or counts -/
theorem wf_lo (h : WF S) (hh : ∀ j, 320 ≤ j → S' j = S j) (hn : ∀ t, nam S t → ∀ k, k < 4 → S' (64 + 4 * t + k) = S (64 + 4 * t + k)) (h0 : ∀ k, k < 4 → S' (64 + k) = S (64 + k)) : WF S' := by
  obtain ⟨e1, e2, e3, e4, e5⟩ := tb_hi hh
  have ed : ∀ t k, nam S t → k < 4 → dt S' t k = dt S t k := fun t k ht hk => by
    unfold dt
    rw [hn t ht k hk]
  refine ⟨⟨by rw [e1]; exact h.m, by rw [e1, hh _ (by omega)]; exact h.m2⟩, fun s hs => ?_, fun d k hd hk hp => ?_, fun l h1 h2 k hk => ?_, fun t ht => ⟨fun k hk => ?_, fun k hk => ?_⟩, fun k hk => ?_, fun l hl => ?_, ?_, fun s hs he => ?_, ?_⟩
  · rw [hh _ (by omega)]; exact h.fl s hs
  · rw [hh _ (by omega), e3]; exact h.dr hd hk (by rw [← e2]; exact hp)
  · rw [hh _ (by omega)]; exact h.ab l (by rw [← e1]; exact h1) h2 k hk
  · rw [hn t ((e4 t).mp ht) k hk]; exact h.cn ((e4 t).mp ht) k hk
  · rw [ed t k ((e4 t).mp ht) hk, e4]; exact h.nd ((e4 t).mp ht) hk
  · rw [h0 k hk]; exact h.z k hk
  · rw [hh _ (by omega), e1]; exact h.b l (by rw [← e1]; exact hl)
  · obtain ⟨r, hr⟩ := h.ac
    refine ⟨r, fun l b h1 h2 h3 => ?_⟩
    rw [e1] at h1 h2
    rw [hh _ (by omega)] at h3
    exact hr l b h1 h2 h3
  · rw [hh _ (by omega)] at he ⊢
    rw [e1]
    exact h.sn s hs he
  · have := h.te
    unfold wT at this ⊢
    rw [hh _ (by omega)]
    exact this
theorem wf_cnt (h : WF S) (hh : ∀ j, 64 ≤ j → S' j = S j) : WF S' := wf_lo h (fun j hj => hh j (by omega)) (fun t _ k _ => hh _ (by omega)) (fun k _ => hh _ (by omega))
/-- the cells of a cluster that is no table -/
theorem wf_unn {m : Nat} (h : WF S) (h1 : 1 ≤ m) (h2 : m < 64) (hm : ¬ nam S m) (hh : ∀ j, ¬ (64 + 4 * m ≤ j ∧ j < 64 + 4 * m + 4) → S' j = S j) : WF S' :=
  wf_lo h (fun j hj => hh j (by omega)) (fun t ht k hk => hh _ (fun z => hm (by rw [show m = t by omega]; exact ht))) (fun k hk => hh _ (by omega))
theorem dt_upd {t j m : Nat} (ht : 1 ≤ t) (hm : m < 64) (hj : j < 4) : ∀ t' k', k' < 4 → dt (upd S (64 + (4 * t + j)) (nI m)) t' k' = if t' = t ∧ k' = j then m else dt S t' k' := by
  intro t' k' hk'
  by_cases q : t' = t ∧ k' = j
  · obtain ⟨rfl, rfl⟩ := q
    rw [if_pos ⟨rfl, rfl⟩]
    unfold dt
    rw [if_neg (by omega), show 64 + 4 * t' + k' = 64 + (4 * t' + k') by omega, pk_us, cl_n hm]
  · rw [if_neg q]
    unfold dt
    by_cases q2 : t' = 0
    · rw [if_pos q2, if_pos q2]
    · rw [if_neg q2, if_neg q2, pk_un (by omega)]
/-- a cell of a table -/
theorem wf_cell {t j m : Nat} (h : WF S) (h1 : 1 ≤ t) (h2 : t < 64) (hj : j < 4) (hm : m < 64) (hn : ¬ nam S m) : WF (upd S (64 + (4 * t + j)) (nI m)) := by
  have hh : ∀ i, 320 ≤ i → upd S (64 + (4 * t + j)) (nI m) i = S i := fun i hi => pk_un (by omega)
  obtain ⟨e1, e2, e3, e4, e5⟩ := tb_hi hh
  refine ⟨⟨by rw [e1]; exact h.m, by rw [e1, hh _ (by omega)]; exact h.m2⟩, fun s hs => ?_, fun d k hd hk hp => ?_, fun l h1 h2 k hk => ?_, fun t' ht => ⟨fun k hk => ?_, fun k hk => ?_⟩, fun k hk => ?_, fun l hl => ?_, ?_, fun s hs he => ?_, ?_⟩
  · rw [hh _ (by omega)]; exact h.fl s hs
  · rw [hh _ (by omega), e3]; exact h.dr hd hk (by rw [← e2]; exact hp)
  · rw [hh _ (by omega)]; exact h.ab l (by rw [← e1]; exact h1) h2 k hk
  · by_cases q : 64 + 4 * t' + k = 64 + (4 * t + j)
    · rw [q, pk_us, cl_n hm]
    · rw [pk_un q]; exact h.cn ((e4 t').mp ht) k hk
  · rw [dt_upd h1 hm hj t' k hk, e4]
    split
    · exact hn
    · exact h.nd ((e4 t').mp ht) hk
  · rw [pk_un (by omega)]; exact h.z k hk
  · rw [hh _ (by omega), e1]; exact h.b l (by rw [← e1]; exact hl)
  · obtain ⟨r, hr⟩ := h.ac
    refine ⟨r, fun l b h1 h2 h3 => ?_⟩
    rw [e1] at h1 h2
    rw [hh _ (by omega)] at h3
    exact hr l b h1 h2 h3
  · rw [hh _ (by omega)] at he ⊢
    rw [e1]
    exact h.sn s hs he
  · have := h.te
    unfold wT at this ⊢
    rw [hh _ (by omega)]
    exact this
/-- directories change -/
theorem wf_dirs (h : WF S) (hlo : ∀ j, j < 327 → S' j = S j) (h9 : S' 399 = S 399)
    (hf : ∀ s, s < 8 → S' (383 + s) = nI 0 ∨ S' (383 + s) = nI 1)
    (hd : ∀ d k, d < 14 → k < 4 → prs S' d = true → S' (327 + 4 * d + k) = nI (tb S' d k))
    (ha : ∀ l, mn S ≤ l → l < 6 → ∀ k, k < 4 → S' (327 + 4 * l + k) = nI 0)
    (hs : ∀ s, s < 8 → S' (383 + s) = nI 1 → ∃ l, l < mn S ∧ S' (391 + s) = nI l)
    (hn : ∀ t, nam S' t → cln S t ∧ ∀ k, k < 4 → ¬ nam S' (dt S t k)) : WF S' := by
  have e1 : mn S' = mn S := by unfold mn; rw [hlo 320 (by omega)]
  have ed : ∀ t k, t < 64 → k < 4 → dt S' t k = dt S t k := fun t k ht hk => by
    unfold dt
    rw [hlo _ (by omega)]
  refine ⟨⟨by rw [e1]; exact h.m, by rw [e1, hlo _ (by omega)]; exact h.m2⟩, hf, hd, fun l h1 h2 k hk => ha l (by rw [← e1]; exact h1) h2 k hk, fun t ht => ⟨fun k hk => ?_, fun k hk => ?_⟩, fun k hk => ?_, fun l hl => ?_, ?_, fun s h1 he => ?_, ?_⟩
  · have := (nam_lt ht).2
    rw [hlo _ (by omega)]; exact (hn t ht).1 k hk
  · rw [ed t k (nam_lt ht).2 hk]; exact (hn t ht).2 k hk
  · rw [hlo _ (by omega)]; exact h.z k hk
  · have := h.m
    rw [e1] at hl
    rw [hlo _ (by omega), e1]; exact h.b l hl
  · have := h.m
    obtain ⟨r, hr⟩ := h.ac
    refine ⟨r, fun l b h1 h2 h3 => ?_⟩
    rw [e1] at h1 h2
    rw [hlo _ (by omega)] at h3
    exact hr l b h1 h2 h3
  · rw [e1]; exact hs s h1 he
  · have := h.te
    unfold wT at this ⊢
    rw [h9]
    exact this
/-- one number of a layer's directory -/
theorem tb_one {l i n : Nat} (h : mn S ≤ 6) (hl : l < mn S) (hi : i < 4) (hn : n < 64) : mn (upd S (327 + 4 * l + i) (nI n)) = mn S ∧ (∀ d, prs (upd S (327 + 4 * l + i) (nI n)) d = prs S d) ∧ ∀ d k, k < 4 → tb (upd S (327 + 4 * l + i) (nI n)) d k = if d = l ∧ k = i then n else tb S d k := by
  have e1 : mn (upd S (327 + 4 * l + i) (nI n)) = mn S := by unfold mn; rw [pk_un (by omega)]
  have e2 : ∀ d, prs (upd S (327 + 4 * l + i) (nI n)) d = prs S d := fun d => by
    unfold prs
    rw [e1]
    split
    · rfl
    · rw [pk_un (by omega)]
  refine ⟨e1, e2, fun d k hk => ?_⟩
  unfold tb
  rw [e2]
  by_cases q : d = l ∧ k = i
  · obtain ⟨rfl, rfl⟩ := q
    rw [if_pos (c := d = d ∧ k = k) ⟨rfl, rfl⟩, prs_lay hl (by omega), if_pos rfl, pk_us, cl_n hn]
  · rw [if_neg q, pk_un (by omega)]
theorem wf_dir {l i n : Nat} (h : WF S) (hl : l < mn S) (hi : i < 4) (hn1 : 1 ≤ n) (hn : n < 64) (hc : cln S n) (hf : ∀ t k, nam S t → k < 4 → dt S t k ≠ n) (hd : ∀ k, k < 4 → ¬ nam S (dt S n k) ∧ dt S n k ≠ n) : WF (upd S (327 + 4 * l + i) (nI n)) := by
  have hm := h.m
  obtain ⟨e1, e2, e3⟩ := tb_one (n := n) h.m hl hi hn
  have en : ∀ t, nam (upd S (327 + 4 * l + i) (nI n)) t → t = n ∨ nam S t := by
    rintro t ⟨h0, d, k, -, h2, h3, h4⟩
    rw [e3 d k h3] at h4
    split at h4
    · exact Or.inl h4.symm
    · exact Or.inr ⟨h0, d, k, by omega, h2, h3, h4⟩
  refine wf_dirs h (fun j hj => pk_un (by omega)) (pk_un (by omega)) (fun s hs => ?_) (fun d k hd hk hp => ?_) (fun l' h1 h2 k hk => ?_) (fun s hs he => ?_) (fun t ht => ?_)
  · rw [pk_un (by omega)]; exact h.fl s hs
  · rw [e3 d k hk]
    by_cases q : d = l ∧ k = i
    · obtain ⟨rfl, rfl⟩ := q
      rw [if_pos ⟨rfl, rfl⟩, pk_us]
    · rw [if_neg q, pk_un (by omega)]
      exact h.dr hd hk (by rw [← e2]; exact hp)
  · rw [pk_un (by omega)]; exact h.ab l' h1 h2 k hk
  · rw [pk_un (by omega)] at he ⊢
    exact h.sn s hs he
  · rcases en t ht with rfl | q
    · exact ⟨hc, fun k hk z => (en _ z).elim (hd k hk).2 (hd k hk).1⟩
    · exact ⟨h.cn q, fun k hk z => (en _ z).elim (hf t k q hk) (h.nd q hk)⟩
end WFS
