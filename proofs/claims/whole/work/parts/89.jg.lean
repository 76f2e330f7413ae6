/-! ===== what holds from call to call ===== -/
section JGS
variable {B : Nat} {S : St} {g : Gs}
theorem wf_addL {b : Int32} (h : WF S) (hm : mn S < 6) (hb : b = -1 ∨ ∃ x, x < mn S ∧ b = nI x) : WF (addL S b) := by
  have hlo : ∀ j, j ≠ 320 → j ≠ 321 + mn S → addL S b j = S j := fun j h1 h2 => by
    unfold addL
    rw [pk_un h1, pk_un h2]
  have h20 : addL S b 320 = nI (mn S + 1) := by unfold addL; rw [pk_us]
  have h21 : addL S b (321 + mn S) = b := by unfold addL; rw [pk_un (by omega), pk_us]
  have em : mn (addL S b) = mn S + 1 := by
    unfold mn at *
    rw [h20, nI_clamp (by omega)]
  have ep : ∀ d, d < 14 → d ≠ mn S → prs (addL S b) d = prs S d := fun d hd hne => by
    unfold prs
    rw [em]
    by_cases z : d < 6
    · rw [if_pos z, if_pos z]
      by_cases y : d < mn S
      · rw [decide_eq_true y, decide_eq_true (by omega)]
      · rw [decide_eq_false y, decide_eq_false (by omega)]
    · rw [if_neg z, if_neg z, hlo _ (by omega) (by omega)]
  have hab : prs S (mn S) = false := by
    rw [prs_lo hm]
    exact decide_eq_false (by omega)
  have et : ∀ d k, d < 14 → k < 4 → tb (addL S b) d k = tb S d k := fun d k hd hk => by
    by_cases z : d = mn S
    · subst z
      rw [tb_ab hab]
      unfold tb
      split
      · rw [hlo _ (by omega) (by omega), h.ab _ (Nat.le_refl _) hm k hk]
        exact cl_n (by decide)
      · rfl
    · unfold tb
      rw [ep d hd z, hlo _ (by omega) (by omega)]
  have en : ∀ t, nam (addL S b) t ↔ nam S t := by
    intro t
    constructor
    · rintro ⟨h0, d, k, a1, a2, a3, a4⟩
      exact ⟨h0, d, k, a1, a2, a3, by rw [← et d k a2 a3]; exact a4⟩
    · rintro ⟨h0, d, k, a1, a2, a3, a4⟩
      exact ⟨h0, d, k, a1, a2, a3, by rw [et d k a2 a3]; exact a4⟩
  have ed : ∀ t k, t < 64 → k < 4 → dt (addL S b) t k = dt S t k := fun t k ht hk => by unfold dt; rw [hlo _ (by omega) (by omega)]
  refine ⟨⟨by omega, by rw [em, h20]⟩, fun s hs => ?_, fun d k hd hk hp => ?_, fun l' h1 h2 k hk => ?_, fun t ht => ⟨fun k hk => ?_, fun k hk => ?_⟩, fun k hk => ?_, fun l' hl' => ?_, ?_, fun s hs he => ?_, ?_⟩
  · rw [hlo _ (by omega) (by omega)]; exact h.fl s hs
  · rw [et d k hd hk]
    by_cases z : d = mn S
    · subst z
      rw [hlo _ (by omega) (by omega), tb_ab hab]
      exact h.ab _ (Nat.le_refl _) hm k hk
    · rw [hlo _ (by omega) (by omega)]
      exact h.dr hd hk (by rw [← ep d hd z]; exact hp)
  · rw [hlo _ (by omega) (by omega)]; exact h.ab l' (by omega) h2 k hk
  · have := (nam_lt ht).2
    rw [hlo _ (by omega) (by omega)]; exact h.cn ((en t).mp ht) k hk
  · rw [ed t k (nam_lt ht).2 hk, en]; exact h.nd ((en t).mp ht) hk
  · rw [hlo _ (by omega) (by omega)]; exact h.z k hk
  · rw [em] at hl' ⊢
    by_cases z : l' = mn S
    · rw [z, h21]
      exact hb.imp id (fun ⟨x, hx, e⟩ => ⟨x, by omega, e⟩)
    · rw [hlo _ (by omega) (by omega)]
      exact (h.b l' (by omega)).imp id (fun ⟨x, hx, e⟩ => ⟨x, by omega, e⟩)
  · obtain ⟨r, hr6, hr⟩ := ac_r h
    refine ⟨fun l => if l = mn S then 6 else r l, fun l x h1 h2 h3 => ?_⟩
    rw [em] at h1 h2
    by_cases z : l = mn S
    · rw [z, h21] at h3
      have hx : x < mn S := by
        rcases hb with y | ⟨b2, hb2, y⟩
        · rw [y] at h3
          have := n_m1 (show x < 2 ^ 31 by omega)
          rw [← h3] at this
          exact (this.mp rfl).elim
        · rw [y, n_eq (by omega) (by omega)] at h3
          omega
      show (if x = mn S then 6 else r x) < (if l = mn S then 6 else r l)
      rw [if_neg (by omega), if_pos z]
      exact hr6 x hx
    · rw [hlo _ (by omega) (by omega)] at h3
      have hx : x < mn S := by
        rcases h.b l (by omega) with y | ⟨b2, hb2, y⟩
        · rw [y] at h3
          have := n_m1 (show x < 2 ^ 31 by omega)
          rw [← h3] at this
          exact (this.mp rfl).elim
        · rw [y, n_eq (by omega) (by omega)] at h3
          omega
      show (if x = mn S then 6 else r x) < (if l = mn S then 6 else r l)
      rw [if_neg (by omega), if_neg z]
      exact hr l x (by omega) hx h3
  · rw [hlo _ (by omega) (by omega)] at he ⊢
    obtain ⟨l, hl, e⟩ := h.sn s hs he
    exact ⟨l, by omega, e⟩
  · unfold wT
    rw [hlo _ (by omega) (by omega)]
    exact h.te
theorem jg_S {S' : St} (h : JG B g) (hw : WF S') (hb : BD S' B) : JG B (gwS g S') := ⟨hw, hb, h.2.2⟩
theorem jg_layer {b : Int32} (h : JG B g) : JG B (aLayer g b).2 := by
  unfold aLayer
  have hm6 := h.1.m
  split
  · rename_i z
    rw [dec_t] at z
    split
    · exact h
    · rename_i y
      refine jg_S h (wf_addL h.1 (by omega) ?_) (bd_hi h.2.1 (fun c hc => ?_) (Nat.le_refl _))
      · exact z.imp id (fun w => by
          obtain ⟨k, hk, e⟩ := okL_n w hm6
          exact ⟨k, hk, e⟩)
      · unfold addL
        rw [pk_un (by omega), pk_un (by omega)]
  · exact h
theorem jg_of {l w : Int32} (h : JG B g) : JG B (aOf g l w).2 := by
  unfold aOf
  split
  · split
    · exact h
    · split
      · exact h
      · split
        · exact h
        · split
          · exact h
          · exact h
  · exact h
theorem jg_read {l pl : Int32} (h : JG B g) : JG B (aRead g l pl).2 := by
  unfold aRead
  split <;> exact h
theorem jg_readOld {l pl : Int32} (h : JG B g) : JG B (aReadOld g l pl).2 := by
  unfold aReadOld
  split <;> exact h
theorem jg_unlike {l pl : Int32} (h : JG B g) : JG B (aUnlike g l pl).2 := by
  unfold aUnlike
  split <;> exact h
theorem jg_sum {l : Int32} (h : JG B g) : JG B (aSum g l).2 := by
  unfold aSum
  split <;> exact h
theorem jg_tear {n : Int32} (h : JG B g) : JG B (aTear g n).2 := by
  unfold aTear
  split
  · rename_i z
    rw [dec_t] at z
    refine jg_S h (wf_tear h.1 ?_) (bd_hi h.2.1 (fun c hc => pk_un (by omega)) (Nat.le_refl _))
    by_cases y : n = -1
    · exact Or.inl y
    · have h0 : ¬ n < 0 := fun w => by
        have e1 := Int32.lt_iff_toInt_lt.mp w
        have e2 := Int32.le_iff_toInt_le.mp (Int32.not_lt.mp z.1)
        rw [im1] at e2
        have e0 : (0 : Int32).toInt = 0 := by decide
        exact y (Int32.toInt_inj.mp (by rw [im1]; omega))
      obtain ⟨k, hk, rfl⟩ := (i_cases n).resolve_left h0
      have := z.2
      rw [n_le hk (by decide)] at this
      exact Or.inr ⟨k, this, rfl⟩
  · exact h
theorem jg_cluster {c w : Int32} (h : JG B g) : JG B (aCluster g c w).2 := by
  unfold aCluster
  split
  · split
    · exact h
    · split
      · exact h
      · split
        · exact h
        · split
          · exact h
          · split
            · exact h
            · split
              · exact h
              · exact h
  · exact h
theorem jg_spoil {c n : Int32} (h : JG B g) (hB : 1000 ≤ B) : JG B (aSpoil g c n).2 := by
  unfold aSpoil
  split
  · rename_i z
    rw [dec_t] at z
    obtain ⟨k, k1, k2, rfl⟩ := pc_x z.1
    rw [nI_clamp (by omega)]
    obtain ⟨m, hm, rfl⟩ := (i_cases n).resolve_left z.2.1
    have h9 := z.2.2
    rw [n_le hm (by decide)] at h9
    refine jg_S h (wf_cnt h.1 (fun j hj => pk_un (by omega))) (fun c hc => ?_)
    by_cases y : c = k
    · subst y
      rw [pk_us, nI_toInt hm]
      omega
    · rw [pk_un y]
      exact h.2.1 c hc
  · exact h
theorem jg_repair (h : JG B g) (hB : 1000 ≤ B) : JG B (aRepair g).2 := by
  unfold aRepair
  refine jg_S h (wf_cnt h.1 (fun j hj => mnd_hi hj)) (fun c hc => ?_)
  unfold mnd
  split
  · have := tru_le g.1 c
    rw [nI_toInt (by omega)]
    omega
  · exact h.2.1 c hc
theorem jg_holders {c : Int32} (h : JG B g) : JG B (aHolders g c).2 := by
  unfold aHolders
  split <;> exact h
theorem jg_best {w : Int32} (h : JG B g) : JG B (aBest g w).2 := by
  unfold aBest
  split
  · split <;> exact h
  · exact h
theorem jg_fore {kd : Nat} {a b c : Int32} (h : JG B g) : JG B (aFore g kd a b c).2 := by
  unfold aFore
  split
  · split
    · exact h
    · split
      · exact h
      · split
        · exact h
        · exact h
  · exact h
theorem jg_thk {l pl v x : Int32} (h : JG B g) : JG B (aThk g l pl v x).2 := by
  unfold aThk
  split
  · split
    · exact h
    · split
      · exact h
      · exact h
  · exact h
theorem jg_torn {l pl v n : Int32} (h : JG B g) : JG B (aTorn g l pl v n).2 := by
  unfold aTorn
  split
  · exact jg_thk h
  · exact h
theorem jg_leaks {l pl n : Int32} (h : JG B g) : JG B (aLeaks g l pl n).2 := by
  unfold aLeaks
  split
  · exact jg_thk h
  · exact h
theorem jg_behind {l pl v : Int32} (h : JG B g) : JG B (aBehind g l pl v).2 := by
  unfold aBehind
  exact jg_thk h
theorem jg_room {l : Int32} (h : JG B g) : JG B (aRoom g l).2 := by
  unfold aRoom
  split
  · split <;> exact h
  · exact h
theorem jg_feed {x : Int64} {n : Int32} (h : JG B g) : JG B (aFeed g x n).2 := by
  unfold aFeed
  split
  · split
    · rename_i z
      rw [dec_t] at z
      refine jg_gtp h z (fun j hj => ?_)
      unfold tpc
      split
      · exact Nat.mod_lt _ (by decide)
      · rename_i y
        exact h.2.2.2.1 j (by omega)
    · exact h
  · exact h
theorem jg_wipe (h : JG B g) : JG B (aWipe g).2 := jg_gtp h (Nat.zero_le _) (fun j hj => absurd hj (Nat.not_lt_zero j))
theorem jg_keep (h : JG B g) : JG B (aKeep g).2 := ⟨h.1, h.2.1, fun _ => ⟨h.1, h.2.1⟩, h.2.2.2⟩
theorem jg_again (h : JG B g) : JG B (aAgain g).2 := by
  unfold aAgain
  split
  · rename_i z
    exact jg_S h (h.2.2.1 z).1 (h.2.2.1 z).2
  · exact h
theorem jg_count {w : Int32} (h : JG B g) : JG B (aCount g w).2 := by
  unfold aCount
  repeat' split
  all_goals exact h
theorem jg_refused {w : Int32} (h : JG B g) : JG B (aRefused g w).2 := by
  unfold aRefused
  split <;> exact h
theorem jg_exF : ∀ (L : List Dd) (i : Nat) (B : Nat) (g : Gs), JG B g → B + 900 * L.length < 2 ^ 29 → (∀ x, x ∈ L → x.1 < 7) → JG (B + 900 * L.length) (exF L i g).2
  | [], _, _, _, h, _, _ => h
  | x :: L, i, B, g, h, hB, hk => by
    rw [List.length_cons] at hB ⊢
    have h1 := jg_deed (a := nI (x.2 0)) (b := nI (x.2 1)) (c := nI (x.2 2)) h (by omega) (show x.1 < 8 by have := hk x (List.mem_cons_self ..); omega)
    unfold exF
    split
    · exact h1.w (by omega)
    · have := jg_exF L (i + 1) (B + 900) _ h1 (by omega) (fun y hy => hk y (List.mem_cons_of_mem _ hy))
      exact this.w (by omega)
theorem dsF_k {N : Nat} {tp : Nat → Nat} : ∀ f a L, (dsF N tp f a).1 = some L → ∀ x, x ∈ L → x.1 < 7
  | 0, _, _, h => by cases h
  | f + 1, a, L, h => by
    unfold dsF at h
    split at h
    · rename_i z
      have h7 := ((rdD_le N tp a).2.2 z).2.2
      split at h
      · dsimp only at h
        cases hq : (dsF N tp f ((rdD N tp a).2.1 + 1)).1 with
        | none => rw [hq] at h; cases h
        | some L2 =>
          rw [hq] at h
          cases h
          intro x hx
          rcases List.mem_cons.mp hx with rfl | y
          · exact h7
          · exact dsF_k f _ L2 hq x y
      · split at h
        · cases h
        · cases h
          intro x hx
          rcases List.mem_cons.mp hx with rfl | y
          · exact h7
          · cases y
    · cases h
theorem jg_run (h : JG B g) (hB : B + 108000 < 2 ^ 29) : JG (B + 108000) (aRun g).2 := by
  unfold aRun
  split
  · exact (jg_gtp h (Nat.zero_le _) (fun j hj => absurd hj (Nat.not_lt_zero j))).w (by omega)
  · rename_i L hL
    have h1 := dsF_len _ _ L hL
    exact jg_gtp ((jg_exF L 0 B g h (by omega) (dsF_k _ _ L hL)).w (by omega)) (Nat.zero_le _) (fun j hj => absurd hj (Nat.not_lt_zero j))
end JGS
