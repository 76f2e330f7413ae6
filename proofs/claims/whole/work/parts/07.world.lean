/-! ===== the world as cells of the machine's heap ===== -/
def mRefs : List mRef := [.inl (0, 0), .inl (0, 1), .inl (0, 2), .inl (0, 3), .inl (0, 4), .inl (0, 5), .inl (0, 6), .inl (1, 0), .inl (1, 1), .inl (1, 2), .inl (1, 3), .inl (1, 4), .inl (1, 5), .inl (1, 6), .inl (2, 0), .inl (2, 1), .inl (2, 2), .inl (2, 3), .inl (2, 4), .inl (2, 5), .inl (2, 6), .inr 0, .inr 1, .inr 2, .inr 3, .inr 4, .inr 5, .inr 6, .inr 7, .inr 8, .inr 9, .inr 10, .inr 11, .inr 12, .inr 13, .inr 14, .inr 15, .inr 16]
def mpos (r : mRef) : Nat := match r with
  | .inl (i, p) => 7 * i.val + p
  | .inr n => 21 + n
def tv (ad : mRef → Nat) (v : mV) : Value := match v with
  | .inl x => .int x
  | .inr (.inl x) => .long x
  | .inr (.inr r) => .ref (ad r)
def fov (ad : mRef → Nat) (h : mH) (r : mRef) (k : Nat) (o : Option mRef) : Value := match o with
  | some r' => .ref (ad r')
  | none => .int (h r k)
def fvs (ad : mRef → Nat) (h : mH) (r : mRef) : List Value := (obj r).2.zipIdx.map (fun q => fov ad h r q.2 q.1)
def cellR (ad : mRef → Nat) (cI : ClassId) (h : mH) (r : mRef) : va_E := match arw r with
  | some n => .inl (cI, n, .inl (h r))
  | none => .inr ((obj r).1, fvs ad h r)
def wl (ad : mRef → Nat) (cI : ClassId) (h : mH) : va_W := mRefs.map (fun r => (ad r, cellR ad cI h r))
theorem mRefs_pos : ∀ (j : Nat) (r : mRef), mRefs[j]? = some r → mpos r = j := by
  intro j r h
  have h0 : (mRefs.zipIdx.all fun q => decide (mpos q.1 = q.2)) = true := by decide
  have h1 : (r, j) ∈ mRefs.zipIdx := by
    rw [List.mem_zipIdx_iff_getElem?]
    exact h
  have h2 := List.all_eq_true.mp h0 _ h1
  simpa using h2
theorem mRefs_img : ∀ (i : Fin 3) (p : Nat), p < 7 → mRefs[mpos (.inl (i, p))]? = some (.inl (i, p)) := by decide
theorem mRefs_oth : ∀ (n : Nat), n < 17 → mRefs[mpos (.inr n)]? = some (.inr n) := by decide
theorem mRefs_arw {r : mRef} {n : Nat} (h : arw r = some n) : mRefs[mpos r]? = some r := by
  unfold arw at h
  split at h <;> first | exact mRefs_img _ _ (by decide) | exact mRefs_oth _ (by decide) | cases h
theorem mRefs_obj {r : mRef} (h : (obj r).1 ≠ 99) : mRefs[mpos r]? = some r ∧ arw r = none := by
  unfold obj at h
  split at h <;> first | exact ⟨mRefs_img _ _ (by decide), rfl⟩ | exact ⟨mRefs_oth _ (by decide), rfl⟩ | exact absurd rfl h
theorem wl_at {ad : mRef → Nat} {cI : ClassId} {h : mH} {r : mRef} (hr : mRefs[mpos r]? = some r) : (wl ad cI h)[mpos r]? = some (ad r, cellR ad cI h r) := by
  simp [wl, List.getElem?_map, hr]
theorem wl_arr {ad : mRef → Nat} {cI : ClassId} {h : mH} {r : mRef} {n : Nat} (hr : arw r = some n) : (wl ad cI h)[mpos r]? = some (ad r, .inl (cI, n, .inl (h r))) := by
  rw [wl_at (mRefs_arw hr)]
  simp [cellR, hr]
theorem wl_obj {ad : mRef → Nat} {cI : ClassId} {h : mH} {r : mRef} (hr : (obj r).1 ≠ 99) : (wl ad cI h)[mpos r]? = some (ad r, .inr ((obj r).1, fvs ad h r)) := by
  rw [wl_at (mRefs_obj hr).1]
  simp [cellR, (mRefs_obj hr).2]
theorem cellR_other {ad : mRef → Nat} {cI : ClassId} {h h' : mH} {r : mRef} (he : ∀ k, h' r k = h r k) : cellR ad cI h' r = cellR ad cI h r := by
  have e : h' r = h r := funext he
  simp only [cellR, fvs, fov, e]
/-- only the cell r differs -/
theorem wl_set {ad : mRef → Nat} {cI : ClassId} {h h' : mH} {r : mRef} (hr : mRefs[mpos r]? = some r) (he : ∀ r', r' ≠ r → ∀ k, h' r' k = h r' k) : wl ad cI h' = (wl ad cI h).set (mpos r) (ad r, cellR ad cI h' r) := by
  apply List.ext_getElem?
  intro j
  by_cases hj : j = mpos r
  · subst hj
    have hl : mpos r < (wl ad cI h).length := (List.getElem?_eq_some_iff.mp (wl_at (ad := ad) (cI := cI) (h := h) hr)).1
    rw [wl_at hr, List.getElem?_set_self hl]
  · rw [List.getElem?_set_ne (Ne.symm hj)]
    simp only [wl, List.getElem?_map]
    cases hq : mRefs[j]? with
    | none => rfl
    | some q =>
      have hne : q ≠ r := fun z => hj (by rw [← mRefs_pos j q hq, z])
      simp [cellR_other (fun k => he q hne k)]
theorem hup_other {h : mH} {r r' : mRef} {k : Nat} {v : Int32} (hne : r' ≠ r) (k' : Nat) : hup h r k v r' k' = h r' k' := by
  simp [hup, hne]
theorem hup_self {h : mH} {r : mRef} {k : Nat} {v : Int32} : hup h r k v r = upd (h r) k v := by
  funext k'
  simp [hup, upd]
theorem wl_hupA {ad : mRef → Nat} {cI : ClassId} {h : mH} {r : mRef} {n k : Nat} {v : Int32} (hr : arw r = some n) : wl ad cI (hup h r k v) = (wl ad cI h).set (mpos r) (ad r, .inl (cI, n, .inl (upd (h r) k v))) := by
  rw [wl_set (mRefs_arw hr) (fun r' hne k' => hup_other hne k')]
  simp [cellR, hr, hup_self]
theorem fvs_at {ad : mRef → Nat} {h : mH} {r : mRef} {k : Nat} {o : Option mRef} (ho : (obj r).2[k]? = some o) : (fvs ad h r)[k]? = some (fov ad h r k o) := by
  simp [fvs, List.getElem?_map, List.getElem?_zipIdx, ho]
theorem fvs_len {ad : mRef → Nat} {h : mH} {r : mRef} : (fvs ad h r).length = (obj r).2.length := by
  simp [fvs]
theorem fvs_hup {ad : mRef → Nat} {h : mH} {r : mRef} {k : Nat} {v : Int32} (ho : (obj r).2[k]? = some none) : fvs ad (hup h r k v) r = (fvs ad h r).set k (.int v) := by
  apply List.ext_getElem?
  intro j
  have hk : k < (obj r).2.length := (List.getElem?_eq_some_iff.mp ho).1
  by_cases hj : j = k
  · subst hj
    rw [fvs_at ho, List.getElem?_set_self (by rw [fvs_len]; exact hk)]
    simp [fov, hup]
  · rw [List.getElem?_set_ne (Ne.symm hj)]
    cases hq : (obj r).2[j]? with
    | none =>
      have hl : (obj r).2.length ≤ j := by simpa using hq
      rw [List.getElem?_eq_none (by rw [fvs_len]; exact hl), List.getElem?_eq_none (by rw [fvs_len]; exact hl)]
    | some o =>
      rw [fvs_at hq, fvs_at hq]
      cases o with
      | some r' => rfl
      | none => simp [fov, hup, hj]
theorem wl_hupO {ad : mRef → Nat} {cI : ClassId} {h : mH} {r : mRef} {k : Nat} {v : Int32} (hr : (obj r).1 ≠ 99) (ho : (obj r).2[k]? = some none) : wl ad cI (hup h r k v) = (wl ad cI h).set (mpos r) (ad r, .inr ((obj r).1, (fvs ad h r).set k (.int v))) := by
  rw [wl_set (mRefs_obj hr).1 (fun r' hne k' => hup_other hne k')]
  simp [cellR, (mRefs_obj hr).2, fvs_hup ho]
theorem wl_hcp {ad : mRef → Nat} {cI : ClassId} {h : mH} {a d : mRef} {sp dp n nd : Nat} (hd : arw d = some nd) : wl ad cI (hcp h a sp d dp n) = (wl ad cI h).set (mpos d) (ad d, .inl (cI, nd, .inl (va_cpy (h a) (h d) sp dp n))) := by
  rw [wl_set (h := h) (mRefs_arw hd) (fun r' hne k' => by simp [hcp, hne])]
  have e : hcp h a sp d dp n d = va_cpy (h a) (h d) sp dp n := by
    funext k
    simp [hcp, va_cpy]
  simp [cellR, hd, e]
/-! ===== the locals ===== -/
def clm (ad : mRef → Nat) (ls : mL) : List (Nat × Value) := (List.range ls.length).filterMap (fun i => (lcl ls i).map (fun v => (i, tv ad v)))
theorem clm_mem {ad : mRef → Nat} {ls : mL} {q : Nat × Value} : q ∈ clm ad ls ↔ ∃ v, lcl ls q.1 = some v ∧ q.2 = tv ad v := by
  constructor
  · intro h
    obtain ⟨i, -, hi⟩ := List.mem_filterMap.mp h
    cases hv : lcl ls i with
    | none => rw [hv] at hi; cases hi
    | some v =>
      rw [hv] at hi
      cases hi
      exact ⟨v, hv, rfl⟩
  · intro ⟨v, hv, e⟩
    refine List.mem_filterMap.mpr ⟨q.1, ?_, by rw [hv]; simp [← e]⟩
    rw [List.mem_range]
    apply Nat.lt_of_not_le
    intro hl
    have e0 : ls.getD q.1 none = none := by simp [List.getD_eq_getElem?_getD, hl]
    simp only [lcl, e0] at hv
    cases hv
def LR (ad : mRef → Nat) (nL : Nat) (real : Array Slot) (ls : mL) : Prop := ls.length = nL ∧ lv_has real nL (clm ad ls)
theorem LR.get {ad : mRef → Nat} {nL : Nat} {real : Array Slot} {ls : mL} (h : LR ad nL real ls) {i : Nat} {v : mV} (hv : lcl ls i = some v) : real[i]? = some (.val (tv ad v)) := h.2.2.2 (i, tv ad v) (clm_mem.mpr ⟨v, hv, rfl⟩)
theorem getD_set_eq {ls : mL} {k : Nat} {o : Option mV} (hk : k < ls.length) : (ls.set k o).getD k none = o := by
  simp [List.getD_eq_getElem?_getD, hk]
theorem getD_set_ne {ls : mL} {k i : Nat} {o : Option mV} (hk : i ≠ k) : (ls.set k o).getD i none = ls.getD i none := by
  simp [List.getD_eq_getElem?_getD, List.getElem?_set_ne (Ne.symm hk)]
theorem lcl_cat (ad : mRef → Nat) {ls : mL} {i : Nat} {v : mV} (hv : lcl ls i = some v) : ls.getD i none = some v ∧ ((tv ad v).category = 2 → ls.getD (i + 1) none = none) := by
  unfold lcl at hv
  split at hv
  · split at hv
    · rename_i x e1 _ e2
      cases hv
      exact ⟨e1, fun _ => e2⟩
    · cases hv
  · rename_i hno
    refine ⟨hv, fun hc => ?_⟩
    rcases v with x | x | r
    · cases hc
    · exact absurd hv (hno x)
    · cases hc
theorem lcl_of (ad : mRef → Nat) {ls : mL} {i : Nat} {v : mV} (h1 : ls.getD i none = some v) (h2 : (tv ad v).category = 2 → ls.getD (i + 1) none = none) : lcl ls i = some v := by
  rcases v with x | x | r
  · simp only [lcl, h1]
  · have h3 := h2 rfl
    simp only [lcl, h1, h3]
  · simp only [lcl, h1]
theorem LR.set1 {ad : mRef → Nat} {nL k : Nat} {real' : Array Slot} {ls : mL} {v : mV} (hl : ls.length = nL) (hk0 : k < nL) (h : lv_has real' nL ((k, tv ad v) :: (clm ad ls).filter (fun q => !(q.1 == k) && !(q.1 + 1 == k && q.2.category == 2)))) : LR ad nL real' (lst ls k v) := by
  refine ⟨by simp [lst, hl], h.1, h.2.1, fun q hq => ?_⟩
  obtain ⟨w, hw, e⟩ := clm_mem.mp hq
  obtain ⟨hg, h2⟩ := lcl_cat ad hw
  have hkl : k < ls.length := by omega
  by_cases hk : q.1 = k
  · rw [hk, lst, getD_set_eq hkl] at hg
    cases hg
    rw [e, hk]
    exact h.2.2 (k, tv ad v) List.mem_cons_self
  · rw [lst, getD_set_ne hk] at hg
    have hn : (tv ad w).category = 2 → q.1 + 1 ≠ k := by
      intro h3 h4
      have h5 := h2 h3
      rw [h4, lst, getD_set_eq hkl] at h5
      cases h5
    have hc : lcl ls q.1 = some w := lcl_of ad hg (fun h3 => by
      have h5 := h2 h3
      rwa [lst, getD_set_ne (hn h3)] at h5)
    refine h.2.2 q (List.mem_cons_of_mem _ (List.mem_filter.mpr ⟨clm_mem.mpr ⟨w, hc, e⟩, ?_⟩))
    have h6 : ¬ (q.1 + 1 = k ∧ q.2.category = 2) := fun z => hn (by rw [← e]; exact z.2) z.1
    by_cases h7 : q.1 + 1 = k
    · have h8 : q.2.category ≠ 2 := fun z => h6 ⟨h7, z⟩
      simp [hk, h8]
    · simp [hk, h7]
theorem LR.set2 {ad : mRef → Nat} {nL k : Nat} {real' : Array Slot} {ls : mL} {v : mV} (hl : ls.length = nL) (hk0 : k + 1 < nL) (h : lv_has real' nL ((k, tv ad v) :: (clm ad ls).filter (fun q => !(q.1 == k) && (!(q.1 == k + 1) && !(q.1 + 1 == k && q.2.category == 2))))) : LR ad nL real' (ls2 ls k v) := by
  refine ⟨by simp [ls2, hl], h.1, h.2.1, fun q hq => ?_⟩
  obtain ⟨w, hw, e⟩ := clm_mem.mp hq
  obtain ⟨hg, h2⟩ := lcl_cat ad hw
  have hkl : k < ls.length := by omega
  by_cases hk1 : q.1 = k + 1
  · rw [hk1, ls2, getD_set_eq (by simp; omega)] at hg
    cases hg
  rw [ls2, getD_set_ne hk1] at hg
  by_cases hk : q.1 = k
  · rw [hk, getD_set_eq hkl] at hg
    cases hg
    rw [e, hk]
    exact h.2.2 (k, tv ad v) List.mem_cons_self
  · rw [getD_set_ne hk] at hg
    have hn : (tv ad w).category = 2 → q.1 + 1 ≠ k := by
      intro h3 h4
      have h5 := h2 h3
      rw [h4, ls2, getD_set_ne (by omega), getD_set_eq hkl] at h5
      cases h5
    have hc : lcl ls q.1 = some w := lcl_of ad hg (fun h3 => by
      have h5 := h2 h3
      rwa [ls2, getD_set_ne (by omega), getD_set_ne (hn h3)] at h5)
    refine h.2.2 q (List.mem_cons_of_mem _ (List.mem_filter.mpr ⟨clm_mem.mpr ⟨w, hc, e⟩, ?_⟩))
    have h6 : ¬ (q.1 + 1 = k ∧ q.2.category = 2) := fun z => hn (by rw [← e]; exact z.2) z.1
    by_cases h7 : q.1 + 1 = k
    · have h8 : q.2.category ≠ 2 := fun z => h6 ⟨h7, z⟩
      simp [hk, hk1, h8]
    · simp [hk, hk1, h7]
