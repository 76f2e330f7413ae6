/-! ===== no limit at all is a limit that no deed meets ===== -/
section EL
variable {σ : Sg}
abbrev LL : Nat := 4294967295
def EL (op : Nat → Sg → Sg) (c : Nat) : Prop := ∀ σ : Sg, σ.2.1 + c ≤ 1000000 → op LL σ = op 1000000 σ ∧ (op 1000000 σ).2.1 ≤ σ.2.1 + c
theorem el_gt (f : St → St) : EL (fun L σ => gt L f σ) 1 := by
  intro σ h
  refine ⟨?_, n_gt1⟩
  dsimp only
  by_cases q : σ.2.2 = 0
  · rw [gt_yes q (show σ.2.1 < 4294967295 by omega), gt_yes q (by omega)]
  · rw [gt_hz q, gt_hz q]
theorem el_id (c : Nat) : EL (fun _ σ => σ) c := fun σ _ => ⟨rfl, by dsimp only; omega⟩
theorem el_comp {a b : Nat → Sg → Sg} {m n k : Nat} (hk : m + n = k) (ha : EL a m) (hb : EL b n) : EL (fun L σ => b L (a L σ)) k := by
  intro σ h
  obtain ⟨a1, a2⟩ := ha σ (by omega)
  obtain ⟨b1, b2⟩ := hb (a 1000000 σ) (by omega)
  refine ⟨?_, by dsimp only; omega⟩
  dsimp only
  rw [a1, b1]
theorem el_dep {F : Sg → Nat → Sg → Sg} {c : Nat} (hF : ∀ x, EL (F x) c) : EL (fun L σ => F σ L σ) c := fun σ h => hF σ σ h
theorem el_if {c : Prop} [Decidable c] {a b : Nat → Sg → Sg} {k : Nat} (ha : EL a k) (hb : EL b k) : EL (fun L σ => if c then a L σ else b L σ) k := by
  intro σ h
  dsimp only
  split
  · exact ha σ h
  · exact hb σ h
theorem el_w {a : Nat → Sg → Sg} {m k : Nat} (hk : m ≤ k) (ha : EL a m) : EL a k := fun σ h => ⟨(ha σ (by omega)).1, Nat.le_trans (ha σ (by omega)).2 (by omega)⟩
theorem el_addc (c : Nat) (v : Int32) : EL (fun L σ => addc L c v σ) 1 := by
  unfold addc
  exact el_if (el_id 1) (el_gt _)
theorem el_incF (old : Nat) : ∀ k, EL (fun L σ => incF L old k σ) k
  | 0 => el_id 0
  | k + 1 => el_comp (b := fun L σ => addc L (dt σ.1 old k) (nI 1) σ) rfl (el_incF old k) (el_dep (F := fun x L σ => addc L (dt x.1 old k) (nI 1) σ) (fun x => el_addc _ _))
theorem el_own2 (l i old n : Nat) : EL (fun L σ => own2 L l i old n σ) 8 := by
  unfold own2
  exact el_comp rfl (el_comp rfl (el_comp rfl (el_comp rfl (el_gt _) (el_gt _)) (el_incF old 4)) (el_gt _)) (el_addc _ _)
theorem el_ncl : EL (fun _ σ => (ncl σ).2) 0 := fun σ _ => ⟨rfl, by dsimp only; rw [n_ncl]; omega⟩
theorem el_own (l i : Nat) : EL (fun L σ => (own L l i σ).2) 8 := by
  have e : (fun L (σ : Sg) => (own L l i σ).2) = (fun L σ => (fun (x : Sg) L σ => if ¬ tb x.1 l i = 0 ∧ x.1 (tb x.1 l i) ≤ nI 1 then σ else own2 L l i (tb x.1 l i) (ncl x).1 (ncl σ).2) σ L σ) := by
    funext L σ
    dsimp only
    unfold own
    split <;> rfl
  rw [e]
  exact el_dep (fun x => el_if (el_id 8) (el_comp rfl el_ncl (el_own2 _ _ _ _)))
theorem el_wp2 (l b t old m : Nat) : EL (fun L σ => wp2 L l b t old m σ) 4 := by
  unfold wp2
  exact el_comp rfl (el_comp rfl (el_comp rfl (el_gt _) (el_gt _)) (el_gt _)) (el_addc _ _)
theorem el_wp1 (l p : Nat) (v : Int32) (t : Nat) : EL (fun L σ => wp1 L l p v t σ) 5 := by
  unfold wp1
  exact el_dep (F := fun x L σ => if dt x.1 t (p / 4 % 4) = 0 ∨ ¬ x.1 (dt x.1 t (p / 4 % 4)) ≤ nI 1 then gt L (fun S => upd S (64 + (4 * (ncl x).1 + p % 4)) v) (wp2 L l (p / 4) t (dt x.1 t (p / 4 % 4)) (ncl x).1 (ncl σ).2) else gt L (fun S => upd S (64 + (4 * dt x.1 t (p / 4 % 4) + p % 4)) v) σ)
    (fun x => el_if (el_comp rfl (el_comp rfl el_ncl (el_wp2 _ _ _ _ _)) (el_gt _)) (el_w (by decide) (el_gt _)))
theorem el_wpl (l p : Nat) (v : Int32) : EL (fun L σ => wpl L l p v σ) 13 := by
  have h : EL (fun L σ => wp1 L l p v (ownt l (p / 4 / 4) σ) (own L l (p / 4 / 4) σ).2) 13 := el_dep (F := fun x L σ => wp1 L l p v (ownt l (p / 4 / 4) x) (own L l (p / 4 / 4) σ).2) (fun x => el_comp rfl (el_own _ _) (el_wp1 _ _ _ _))
  intro σ hs
  have := h σ hs
  dsimp only at this ⊢
  unfold wpl
  rw [own_1, own_1]
  exact this
theorem el_rlk (t : Nat) : ∀ f k, EL (fun L σ => rlk L t f k σ) f
  | 0, _ => el_id 0
  | f + 1, k => el_dep (F := fun x L σ => if x.1 t = 0 then rlk L t f (k + 1) (addc L (dt x.1 t k) (-1) σ) else σ) (fun x => el_if (el_comp (Nat.add_comm 1 f) (el_addc _ _) (el_rlk t f (k + 1))) (el_id _))
theorem el_rel1 (t : Nat) : EL (fun L σ => rel1 L t σ) 5 := by
  unfold rel1
  exact el_if (el_id 5) (el_comp rfl (el_addc _ _) (el_rlk t 4 0))
theorem el_rlF (T : Nat → Nat) : ∀ i, EL (fun L σ => rlF L T i σ) (5 * i)
  | 0 => el_id 0
  | i + 1 => el_comp (m := 5 * i) (n := 5) (a := fun L σ => rlF L T i σ) (b := fun L σ => rel1 L (T i) σ) (by omega) (el_rlF T i) (el_rel1 _)
theorem el_csF (dd : Nat) : ∀ i, EL (fun L σ => csF L dd i σ) i
  | 0 => el_id 0
  | i + 1 => el_comp (b := fun L σ => addc L (tb σ.1 dd i) (nI 1) σ) rfl (el_csF dd i) (el_dep (F := fun x L σ => addc L (tb x.1 dd i) (nI 1) σ) (fun x => el_addc _ _))
theorem el_snp (l s : Nat) : EL (fun L σ => snp L l s σ) 5 := by
  unfold snp
  exact el_comp rfl (el_csF l 4) (el_gt _)
theorem el_drp (s : Nat) : EL (fun L σ => drp L s σ) 21 := by
  unfold drp
  exact el_dep (F := fun x L σ => rlF L (fun i => tb x.1 (6 + s) i) 4 (gt L (fun S => upd S (383 + s) (nI 0)) σ)) (fun x => el_comp rfl (el_gt _) (el_rlF _ 4))
theorem el_rvt (l s : Nat) : EL (fun L σ => rvt L l s σ) 25 := by
  unfold rvt
  exact el_dep (F := fun x L σ => rlF L (fun i => tb x.1 l i) 4 (gt L (fun S => wdir S l (6 + s)) (csF L (6 + s) 4 σ))) (fun x => el_comp rfl (el_comp rfl (el_csF _ 4) (el_gt _)) (el_rlF _ 4))
theorem el_gvu (l b : Nat) : EL (fun L σ => gvu L l b σ) 10 := by
  have h : EL (fun L σ => if dof σ.1 l b = 0 then σ else addc L (dof σ.1 l b) (-1) (gt L (fun S => upd S (64 + (4 * ownt l (b / 4) σ + b % 4)) (nI 0)) (own L l (b / 4) σ).2)) 10 :=
    el_dep (F := fun x L σ => if dof x.1 l b = 0 then σ else addc L (dof x.1 l b) (-1) (gt L (fun S => upd S (64 + (4 * ownt l (b / 4) x + b % 4)) (nI 0)) (own L l (b / 4) σ).2)) (fun x => el_if (el_id 10) (el_comp rfl (el_comp rfl (el_own _ _) (el_gt _)) (el_addc _ _)))
  intro σ hs
  have := h σ hs
  dsimp only at this ⊢
  unfold gvu
  rw [own_1, own_1]
  exact this
theorem el_mgF (l bb : Nat) : ∀ p, EL (fun L σ => mgF L l bb p σ) (13 * p)
  | 0 => el_id 0
  | p + 1 => el_comp (b := fun L σ => if dof σ.1 l (p / 4) = 0 then σ else wpl L bb p (rdf σ.1 6 (nI l) p) σ) (by omega) (el_mgF l bb p) (el_dep (F := fun x L σ => if dof x.1 l (p / 4) = 0 then σ else wpl L bb p (rdf x.1 6 (nI l) p) σ) (fun x => el_if (el_id 13) (el_wpl _ _ _)))
theorem el_mrg (l bb : Nat) : EL (fun L σ => mrg L l bb σ) 853 := by
  unfold mrg
  exact el_comp (b := fun L σ => rlF L (fun i => tb σ.1 l i) 4 (gt L (fun S => wdr0 S l) σ)) (m := 832) (n := 21) rfl (el_mgF l bb 64) (el_dep (F := fun x L σ => rlF L (fun i => tb x.1 l i) 4 (gt L (fun S => wdr0 S l) σ)) (fun x => el_comp rfl (el_gt _) (el_rlF _ 4)))
theorem el_mvK (l b : Nat) : ∀ k, EL (fun L σ => mvK L l b k σ) (13 * k)
  | 0 => el_id 0
  | k + 1 => el_comp (b := fun L σ => wpl L l (4 * b + k) (rdf σ.1 6 (nI l) (4 * b + k)) σ) (by omega) (el_mvK l b k) (el_dep (F := fun x L σ => wpl L l (4 * b + k) (rdf x.1 6 (nI l) (4 * b + k)) σ) (fun x => el_wpl _ _ _))
theorem el_mvF (l : Nat) (y : Int32) : ∀ b, EL (fun L σ => mvF L l y b σ) (52 * b)
  | 0 => el_id 0
  | b + 1 => el_comp (b := fun L σ => if dof σ.1 l b = 0 ∧ dec (smB σ.1 (nI l) y b) = false then mvK L l b 4 σ else σ) (by omega) (el_mvF l y b) (el_dep (F := fun x L σ => if dof x.1 l b = 0 ∧ dec (smB x.1 (nI l) y b) = false then mvK L l b 4 σ else σ) (fun x => el_if (el_mvK l b 4) (el_id 52)))
theorem el_mov (l : Nat) (y : Int32) (safe : Nat) : EL (fun L σ => mov L l y safe σ) 833 := by
  unfold mov
  exact el_comp (m := 832) (n := 1) rfl (el_if (el_mvF l y 16) (el_id _)) (el_gt _)
theorem el_fo1 (Q : Nat → Bool) (t k : Nat) : EL (fun L σ => fo1 L Q t k σ) 3 := by
  unfold fo1
  exact el_dep (F := fun x L σ => if lae x.1 Q (dt x.1 t k) < dt x.1 t k then addc L (dt x.1 t k) (-1) (gt L (fun S => upd S (64 + (4 * t + k)) (nI (lae x.1 Q (dt x.1 t k)))) (addc L (lae x.1 Q (dt x.1 t k)) (nI 1) σ)) else σ) (fun x => el_if (el_comp rfl (el_comp rfl (el_addc _ _) (el_gt _)) (el_addc _ _)) (el_id 3))
theorem el_foK (Q : Nat → Bool) (t : Nat) : ∀ k, EL (fun L σ => foK L Q t k σ) (3 * k)
  | 0 => el_id 0
  | k + 1 => el_comp (m := 3 * k) (n := 3) (a := fun L σ => foK L Q t k σ) (b := fun L σ => fo1 L Q t k σ) (by omega) (el_foK Q t k) (el_fo1 Q t k)
theorem el_foF (P Q : Nat → Bool) : ∀ t, EL (fun L σ => foF L P Q t σ) (12 * t)
  | 0 => el_id 0
  | t + 1 => el_comp (b := fun L σ => if P t then foK L Q t 4 σ else σ) (by omega) (el_foF P Q t) (el_if (el_foK Q t 4) (el_id 12))
theorem el_fol : EL (fun L σ => fol L σ) 768 := by
  unfold fol
  exact el_dep (F := fun x L σ => foF L (fun t => dec (isT x.1 0 14 t)) (fun c => dec (isD x.1 (fun t => dec (isT x.1 0 14 t)) c)) 64 σ) (fun x => el_foF _ _ 64)
theorem el_act (S : St) (kd : Nat) (a b c : Int32) : EL (fun L σ => act S kd a b c L σ) 900 := by
  unfold act
  split
  · exact el_w (by decide) (el_wpl _ _ _)
  · exact el_w (by decide) (el_snp _ _)
  · exact el_w (by decide) (el_drp _)
  · exact el_w (by decide) (el_rvt _ _)
  · exact el_w (by decide) (el_gvu _ _)
  · exact el_w (by decide) (el_mrg _ _)
  · exact el_w (by decide) (el_mov _ _ _)
  · exact el_w (by decide) el_fol
/-- limits under which the counts stay small -/
def LB (B L n : Nat) : Prop := B + L < 2 ^ 30 ∨ (L = LL ∧ n ≤ 990000 ∧ B + 1000000 < 2 ^ 30)
variable {B M L : Nat}
theorem own_hr {l i : Nat} (hB : LB B L σ.2.1) (h : HC B M σ) (hl : l < M) (hi : i < 4) : HQ (AW B M) (fun S _ => C0 S ∧ tb S l i = (own L l i σ).1 ∧ (own L l i σ).1 ≠ 0) (own L l i σ).2 := by
  rcases hB with hB | ⟨rfl, hn, hB⟩
  · exact own_h hB h hl hi
  · rw [show (own LL l i σ).2 = (own 1000000 l i σ).2 from (el_own l i σ (by omega)).1, own_1]
    have := own_h (L := 1000000) (by omega) h hl hi
    rw [own_1] at this
    exact this
theorem wpl_cr {l p : Nat} {v : Int32} (hB : LB B L σ.2.1) (h : HC B M σ) (hl : l < M) (hp : p < 64) : HC B M (wpl L l p v σ) := by
  rcases hB with hB | ⟨rfl, hn, hB⟩
  · exact wpl_c hB h hl hp
  · rw [show wpl LL l p v σ = wpl 1000000 l p v σ from (el_wpl l p v σ (by omega)).1]
    exact wpl_c (by omega) h hl hp
theorem LB.w {n m : Nat} (h : LB B L n) (hm : m ≤ n ∨ m ≤ 990000) : LB B L m := by
  rcases h with h | ⟨h1, h2, h3⟩
  · exact Or.inl h
  · exact Or.inr ⟨h1, by omega, h3⟩
end EL
