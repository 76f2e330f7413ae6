section LIM
variable {L : Nat} {σ : Sg} {S : St}
def shf (m : Nat) (σ : Sg) : Sg := (σ.1, σ.2.1 + m, σ.2.2)
/-- a row of single writes: frozen when halted, counted, and the same under any limit that it doesn't meet -/
def GD (op : Nat → Sg → Sg) : Prop := ∀ (L : Nat) (σ : Sg), (¬ σ.2.2 = 0 → op L σ = σ) ∧ σ.2.1 ≤ (op L σ).2.1 ∧ ((op L σ).2.2 = 1 → σ.2.2 = 1 ∨ L ≤ (op L σ).2.1) ∧ (∀ L', ¬ (op L σ).2.2 = 1 → (op L σ).2.1 ≤ L' → op L' σ = op L σ) ∧ ∀ m, (op L σ).2.1 + m < L → op L (shf m σ) = shf m (op L σ)
theorem gd_gt (f : St → St) : GD (fun L σ => gt L f σ) := by
  intro L σ
  refine ⟨fun h => gt_hz h, ?_, ?_, fun L' => ?_, fun m => ?_⟩
  · dsimp only
    unfold gt
    split
    · split
      · exact Nat.le_refl _
      · exact Nat.le_succ _
    · exact Nat.le_refl _
  · dsimp only
    unfold gt
    by_cases q : σ.2.2 = 0
    · rw [if_pos q]
      by_cases q2 : L ≤ σ.2.1
      · rw [if_pos q2]; intro _; exact Or.inr q2
      · rw [if_neg q2]; intro z; exact absurd z (show ¬ (0 : Nat) = 1 by decide)
    · rw [if_neg q]; exact Or.inl
  · dsimp only
    by_cases q : σ.2.2 = 0
    · by_cases q2 : L ≤ σ.2.1
      · intro z
        unfold gt at z
        rw [if_pos q, if_pos q2] at z
        exact absurd rfl z
      · intro _ h2
        rw [gt_yes q (show σ.2.1 < L by omega)] at h2 ⊢
        exact gt_yes q h2
    · intro _ _
      rw [gt_hz q, gt_hz q]
  · dsimp only
    by_cases q : σ.2.2 = 0
    · by_cases q2 : L ≤ σ.2.1
      · intro z
        unfold gt at z
        rw [if_pos q, if_pos q2] at z
        exact absurd z (show ¬ σ.2.1 + m < L by omega)
      · intro h2
        rw [gt_yes q (show σ.2.1 < L by omega)] at h2 ⊢
        have h2' : σ.2.1 + 1 + m < L := h2
        rw [gt_yes (σ := shf m σ) q (show σ.2.1 + m < L by omega)]
        show (f σ.1, σ.2.1 + m + 1, 0) = (f σ.1, σ.2.1 + 1 + m, 0)
        rw [show σ.2.1 + m + 1 = σ.2.1 + 1 + m by omega]
    · intro _
      rw [gt_hz q, gt_hz (σ := shf m σ) q]
theorem gd_id : GD (fun _ σ => σ) := fun L σ => ⟨fun _ => rfl, Nat.le_refl _, Or.inl, fun _ _ _ => rfl, fun _ _ => rfl⟩
theorem gd_comp {a b : Nat → Sg → Sg} (ha : GD a) (hb : GD b) : GD (fun L σ => b L (a L σ)) := by
  intro L σ
  obtain ⟨a1, a2, a3, a4, a5⟩ := ha L σ
  obtain ⟨b1, b2, b3, b4, b5⟩ := hb L (a L σ)
  refine ⟨fun h => ?_, Nat.le_trans a2 b2, fun h => ?_, fun L' h1 h2 => ?_, fun m h1 => ?_⟩
  · dsimp only
    rw [a1 h] at b1 ⊢
    exact b1 h
  · rcases b3 h with z | z
    · rcases a3 z with z | z
      · exact Or.inl z
      · exact Or.inr (Nat.le_trans z b2)
    · exact Or.inr z
  · dsimp only at h1 h2 ⊢
    have hn : ¬ (a L σ).2.2 = 1 := fun z => by
      rw [b1 (by rw [z]; decide)] at h1
      exact h1 z
    rw [a4 L' hn (by omega)]
    exact b4 L' h1 h2
  · dsimp only at h1 ⊢
    rw [a5 m (by omega)]
    exact b5 m h1
theorem gd_dep {F : Sg → Nat → Sg → Sg} (hF : ∀ x, GD (F x)) (hs : ∀ σ m, F (shf m σ) = F σ) : GD (fun L σ => F σ L σ) := by
  intro L σ
  obtain ⟨a1, a2, a3, a4, a5⟩ := hF σ L σ
  refine ⟨a1, a2, a3, a4, fun m h => ?_⟩
  dsimp only
  rw [hs]
  exact a5 m h
theorem gd_if {c : Prop} [Decidable c] {a b : Nat → Sg → Sg} (ha : GD a) (hb : GD b) : GD (fun L σ => if c then a L σ else b L σ) := by
  by_cases h : c
  · simp only [if_pos h]; exact ha
  · simp only [if_neg h]; exact hb
theorem gd_ncl : GD (fun _ σ => (ncl σ).2) := by
  intro L σ
  refine ⟨fun h => by dsimp only; rw [ncl_hz h], by dsimp only; rw [n_ncl]; exact Nat.le_refl _, ?_, fun _ _ _ => rfl, fun m _ => ?_⟩
  · dsimp only
    unfold ncl
    split
    · split
      · intro z; exact absurd z (show ¬ (2 : Nat) = 1 by decide)
      · exact Or.inl
    · exact Or.inl
  · dsimp only
    unfold ncl shf
    dsimp only
    split
    · split <;> rfl
    · rfl
theorem ncl_shf {m : Nat} : (ncl (shf m σ)).1 = (ncl σ).1 := by
  unfold ncl shf
  dsimp only
  split
  · split <;> rfl
  · rfl
theorem gd_addc (c : Nat) (v : Int32) : GD (fun L σ => addc L c v σ) := by
  unfold addc
  exact gd_if gd_id (gd_gt _)
theorem gd_incF (old : Nat) : ∀ k, GD (fun L σ => incF L old k σ)
  | 0 => gd_id
  | k + 1 => by
    simp only [incF]
    exact gd_comp (gd_incF old k) (gd_dep (F := fun τ L σ => addc L (dt τ.1 old k) (nI 1) σ) (fun x => gd_addc _ _) (fun _ _ => rfl))
theorem gd_own2 (l i old n : Nat) : GD (fun L σ => own2 L l i old n σ) := by
  unfold own2
  exact gd_comp (gd_comp (gd_comp (gd_comp (gd_gt _) (gd_gt _)) (gd_incF old 4)) (gd_gt _)) (gd_addc _ _)
def ownt (l i : Nat) (σ : Sg) : Nat := if ¬ tb σ.1 l i = 0 ∧ σ.1 (tb σ.1 l i) ≤ nI 1 then tb σ.1 l i else (ncl σ).1
theorem own_1 {l i : Nat} : (own L l i σ).1 = ownt l i σ := by
  unfold own ownt
  split <;> rfl
theorem gd_own (l i : Nat) : GD (fun L σ => (own L l i σ).2) := by
  have e : (fun L (σ : Sg) => (own L l i σ).2) = (fun L σ => (fun (τ : Sg) L σ => if ¬ tb τ.1 l i = 0 ∧ τ.1 (tb τ.1 l i) ≤ nI 1 then σ else own2 L l i (tb τ.1 l i) (ncl τ).1 (ncl σ).2) σ L σ) := by
    funext L σ
    dsimp only
    unfold own
    split <;> rfl
  rw [e]
  refine gd_dep (fun x => gd_if gd_id (gd_comp gd_ncl (gd_own2 _ _ _ _))) (fun σ m => ?_)
  funext L' τ
  rw [ncl_shf]
  rfl
theorem gd_wp2 (l b t old m : Nat) : GD (fun L σ => wp2 L l b t old m σ) := by
  unfold wp2
  exact gd_comp (gd_comp (gd_comp (gd_gt _) (gd_gt _)) (gd_gt _)) (gd_addc _ _)
theorem gd_wp1 (l p : Nat) (v : Int32) (t : Nat) : GD (fun L σ => wp1 L l p v t σ) := by
  unfold wp1
  refine gd_dep (F := fun τ L σ => if dt τ.1 t (p / 4 % 4) = 0 ∨ ¬ τ.1 (dt τ.1 t (p / 4 % 4)) ≤ nI 1 then gt L (fun S => upd S (64 + (4 * (ncl τ).1 + p % 4)) v) (wp2 L l (p / 4) t (dt τ.1 t (p / 4 % 4)) (ncl τ).1 (ncl σ).2) else gt L (fun S => upd S (64 + (4 * dt τ.1 t (p / 4 % 4) + p % 4)) v) σ) (fun x => gd_if (gd_comp (gd_comp gd_ncl (gd_wp2 _ _ _ _ _)) (gd_gt _)) (gd_gt _)) (fun σ m => ?_)
  funext L' τ
  rw [ncl_shf]
  rfl
theorem gd_wpl (l p : Nat) (v : Int32) : GD (fun L σ => wpl L l p v σ) := by
  unfold wpl
  simp only [own_1]
  refine gd_dep (F := fun τ L σ => wp1 L l p v (ownt l (p / 4 / 4) τ) (own L l (p / 4 / 4) σ).2) (fun x => gd_comp (gd_own _ _) (gd_wp1 _ _ _ _)) (fun σ m => ?_)
  have : ownt l (p / 4 / 4) (shf m σ) = ownt l (p / 4 / 4) σ := by
    unfold ownt
    rw [ncl_shf]
    rfl
  rw [this]
/-- how many, and whether it is full, is the same for any v -/
theorem gt_v {f f' : St → St} : (gt L f σ).2 = (gt L f' σ).2 := by
  unfold gt
  split
  · split <;> rfl
  · rfl
theorem wpl_v {l p : Nat} {v v' : Int32} : (wpl L l p v σ).2 = (wpl L l p v' σ).2 := by
  unfold wpl wp1
  split
  · exact gt_v
  · exact gt_v
end LIM
