/-! ===== how often a cluster is named, abstractly ===== -/
def cnD (D : Nat → Nat → Nat) (t c : Nat) : Nat := fb_sm (fun k => icn (D t k) c) 4
def trm (R : Nat → Nat) (D : Nat → Nat → Nat) (c t : Nat) : Nat := if 1 ≤ t ∧ 0 < R t then cnD D t c else 0
def tot (R : Nat → Nat) (D : Nat → Nat → Nat) (c : Nat) : Nat := R c + fb_sm (trm R D c) 64
theorem icn_s (a : Nat) : icn a a = 1 := if_pos rfl
theorem icn_n {a b : Nat} (h : a ≠ b) : icn a b = 0 := if_neg h
theorem icn_le (a b : Nat) : icn a b ≤ 1 := by
  unfold icn
  split <;> omega
theorem fb_sm_ge {f : Nat → Nat} {i n : Nat} (h : i < n) : f i ≤ fb_sm f n := by
  have := fb_sm_part f h
  omega
theorem tot_dat {R : Nat → Nat} {D : Nat → Nat → Nat} {t k : Nat} (h1 : 1 ≤ t) (h2 : t < 64) (hr : 0 < R t) (hk : k < 4) : R (D t k) + 1 ≤ tot R D (D t k) := by
  have h3 : trm R D (D t k) t ≤ fb_sm (trm R D (D t k)) 64 := fb_sm_ge h2
  have h4 : icn (D t k) (D t k) ≤ cnD D t (D t k) := fb_sm_ge (f := fun j => icn (D t j) (D t k)) hk
  rw [icn_s] at h4
  have e : trm R D (D t k) t = cnD D t (D t k) := if_pos ⟨h1, hr⟩
  rw [e] at h3
  unfold tot
  omega
theorem tot_0 {R : Nat → Nat} {D : Nat → Nat → Nat} {n : Nat} (h : tot R D n = 0) : R n = 0 ∧ ∀ t k, 1 ≤ t → t < 64 → 0 < R t → k < 4 → D t k ≠ n := by
  refine ⟨by unfold tot at h; omega, fun t k h1 h2 h3 h4 e => ?_⟩
  have := tot_dat (D := D) h1 h2 h3 h4
  rw [e] at this
  omega
theorem cnD_cg {D D' : Nat → Nat → Nat} {t c : Nat} (h : ∀ k, k < 4 → D t k = D' t k) : cnD D t c = cnD D' t c := fb_sm_cong (fun k hk => by rw [h k hk])
theorem tot_cg {R R' : Nat → Nat} {D D' : Nat → Nat → Nat} {c : Nat} (hc : 1 ≤ c) (hc2 : c < 64) (hR : ∀ t, 1 ≤ t → t < 64 → R t = R' t) (hD : ∀ t, 1 ≤ t → t < 64 → 0 < R t → ∀ k, k < 4 → D t k = D' t k) : tot R D c = tot R' D' c := by
  unfold tot
  rw [hR c hc hc2, fb_sm_cong (g := trm R' D' c)]
  intro t ht
  unfold trm
  by_cases q : 1 ≤ t ∧ 0 < R t
  · rw [if_pos q, if_pos ⟨q.1, by rw [← hR t q.1 ht]; exact q.2⟩]
    exact cnD_cg (hD t q.1 ht q.2)
  · rw [if_neg q, if_neg (fun z => q ⟨z.1, by rw [hR t z.1 ht]; exact z.2⟩)]
/-- one number o of a directory becomes n -/
theorem tot_dir {R R' : Nat → Nat} {D : Nat → Nat → Nat} {o n c : Nat} (hn : n < 64) (hR : ∀ t, 1 ≤ t → t < 64 → R' t + icn o t = R t + icn n t) (hc : 1 ≤ c) (hc2 : c < 64) : tot R' D c + icn o c ≤ tot R D c + icn n c + cnD D n c := by
  have h1 := hR c hc hc2
  have h2 : fb_sm (trm R' D c) 64 ≤ fb_sm (fun t => if t = n then cnD D n c else trm R D c t) 64 := by
    apply fb_sm_le
    intro t ht
    by_cases q : t = n
    · rw [if_pos q, q]
      unfold trm
      split <;> omega
    · rw [if_neg q]
      unfold trm
      by_cases q2 : 1 ≤ t ∧ 0 < R' t
      · have h0 : 0 < R t := by
          have := hR t q2.1 ht
          rw [icn_n (Ne.symm q)] at this
          omega
        rw [if_pos q2, if_pos ⟨q2.1, h0⟩]
        exact Nat.le_refl _
      · rw [if_neg q2]
        exact Nat.zero_le _
  have h3 := fb_sm_upd (trm R D c) (cnD D n c) hn
  unfold tot
  omega
/-- one cell of a named table changes -/
theorem tot_cell {R : Nat → Nat} {D D' : Nat → Nat → Nat} {t k m c : Nat} (h1 : 1 ≤ t) (h2 : t < 64) (hr : 0 < R t) (hk : k < 4) (hD : ∀ t' k', k' < 4 → D' t' k' = if t' = t ∧ k' = k then m else D t' k') : tot R D' c + icn (D t k) c = tot R D c + icn m c := by
  have e1 : fb_sm (trm R D' c) 64 = fb_sm (fun t' => if t' = t then cnD D' t c else trm R D c t') 64 := by
    apply fb_sm_cong
    intro t' ht'
    by_cases q : t' = t
    · subst q
      rw [if_pos rfl]
      unfold trm
      rw [if_pos ⟨h1, hr⟩]
    · rw [if_neg q]
      unfold trm
      split
      · apply cnD_cg
        intro k' hk'
        rw [hD t' k' hk', if_neg (fun z => q z.1)]
      · rfl
  have e2 : cnD D' t c = fb_sm (fun k' => if k' = k then icn m c else icn (D t k') c) 4 := by
    apply fb_sm_cong
    intro k' hk'
    by_cases q : k' = k
    · subst q
      rw [if_pos rfl, hD t k' hk', if_pos ⟨rfl, rfl⟩]
    · rw [if_neg q, hD t k' hk', if_neg (fun z => q z.2)]
  have e3 := fb_sm_upd (fun k' => icn (D t k') c) (icn m c) hk
  have e4 := fb_sm_upd (trm R D c) (cnD D' t c) h2
  have e5 : trm R D c t = cnD D t c := by
    unfold trm
    rw [if_pos ⟨h1, hr⟩]
  have e6 : cnD D t c = fb_sm (fun k' => icn (D t k') c) 4 := rfl
  unfold tot
  rw [e1]
  omega
/-- how the numbers of directories are counted -/
theorem isT_rfc {S : St} {t : Nat} : isT S 0 14 t ↔ t ≠ 0 ∧ 0 < rfc S t := by
  unfold isT
  constructor
  · rintro ⟨h0, d, k, -, h2, h3, h4⟩
    refine ⟨h0, ?_⟩
    have a1 : icn (tb S d k) t ≤ rf4 S d t := fb_sm_ge (f := fun k => icn (tb S d k) t) h3
    have a2 : rf4 S d t ≤ rfc S t := fb_sm_ge (f := fun d => rf4 S d t) h2
    rw [h4, icn_s] at a1
    omega
  · rintro ⟨h0, h1⟩
    refine ⟨h0, ?_⟩
    apply Classical.byContradiction
    intro hn
    have : rfc S t = 0 := by
      have e : rfc S t = fb_sm (fun _ => 0) 14 := by
        apply fb_sm_cong
        intro d hd
        have e2 : rf4 S d t = fb_sm (fun _ => 0) 4 := by
          apply fb_sm_cong
          intro k hk
          exact icn_n (fun z => hn ⟨d, k, by omega, hd, hk, z⟩)
        rw [e2, fb_sm_const]
      rw [e, fb_sm_const]
    omega
theorem tru_tot {S : St} {c : Nat} : tru S c = tot (rfc S) (dt S) c := by
  unfold tru tot
  congr 1
  apply fb_sm_cong
  intro t ht
  unfold trm
  by_cases q : isT S 0 14 t
  · rw [if_pos (by rw [dec_t]; exact q), if_pos ⟨by have := (isT_rfc.mp q).1; omega, (isT_rfc.mp q).2⟩]
    rfl
  · rw [if_neg (by rw [dec_t]; exact q), if_neg (fun z => q (isT_rfc.mpr ⟨by omega, z.2⟩))]
theorem rfc_tb {S S' : St} (h : ∀ d k, d < 14 → k < 4 → tb S' d k = tb S d k) (c : Nat) : rfc S' c = rfc S c := fb_sm_cong (fun d hd => fb_sm_cong (fun k hk => by rw [h d k hd hk]))
theorem rfc_one {S S' : St} {l i n : Nat} (hl : l < 14) (hi : i < 4) (h : ∀ d k, d < 14 → k < 4 → tb S' d k = if d = l ∧ k = i then n else tb S d k) (c : Nat) : rfc S' c + icn (tb S l i) c = rfc S c + icn n c := by
  have e1 : rfc S' c = fb_sm (fun d => if d = l then rf4 S' l c else rf4 S d c) 14 := by
    apply fb_sm_cong
    intro d hd
    by_cases q : d = l
    · subst q
      rw [if_pos rfl]
    · rw [if_neg q]
      apply fb_sm_cong
      intro k hk
      rw [h d k hd hk, if_neg (fun z => q z.1)]
  have e2 : rf4 S' l c = fb_sm (fun k => if k = i then icn n c else icn (tb S l k) c) 4 := by
    apply fb_sm_cong
    intro k hk
    by_cases q : k = i
    · subst q
      rw [if_pos rfl, h l k hl hk, if_pos ⟨rfl, rfl⟩]
    · rw [if_neg q, h l k hl hk, if_neg (fun z => q z.2)]
  have e3 := fb_sm_upd (fun k => icn (tb S l k) c) (icn n c) hi
  have e4 := fb_sm_upd (fun d => rf4 S d c) (rf4 S' l c) hl
  have e5 : rf4 S l c = fb_sm (fun k => icn (tb S l k) c) 4 := rfl
  have e6 : rfc S c = fb_sm (fun d => rf4 S d c) 14 := rfl
  rw [e1]
  omega
theorem nam_tb {S : St} {d k : Nat} (hd : d < 14) (hk : k < 4) (h : tb S d k ≠ 0) : isT S 0 14 (tb S d k) := ⟨h, d, k, by omega, hd, hk, rfl⟩
