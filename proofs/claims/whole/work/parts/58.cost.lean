section CST
variable {L : Nat} {σ : Sg} {S : St}
theorem n_gt1 {f : St → St} : (gt L f σ).2.1 ≤ σ.2.1 + 1 := by
  unfold gt
  split
  · split
    · exact Nat.le_succ _
    · exact Nat.le_refl _
  · exact Nat.le_succ _
theorem n_addc {c : Nat} {v : Int32} : (addc L c v σ).2.1 ≤ σ.2.1 + 1 := by
  unfold addc
  split
  · exact Nat.le_succ _
  · exact n_gt1
theorem n_incF {old : Nat} : ∀ k, (incF L old k σ).2.1 ≤ σ.2.1 + k
  | 0 => Nat.le_refl _
  | k + 1 => by
    have h1 := n_incF (old := old) k
    have h2 := n_addc (L := L) (c := dt (incF L old k σ).1 old k) (v := nI 1) (σ := incF L old k σ)
    rw [incF]
    omega
theorem n_ncl : (ncl σ).2.2.1 = σ.2.1 := by
  unfold ncl
  split
  · split <;> rfl
  · rfl
theorem n_own2 {l i old n : Nat} : (own2 L l i old n σ).2.1 ≤ σ.2.1 + 8 := by
  unfold own2
  generalize hτ0 : gt L (fun S => upd S n (nI 1)) σ = τ0
  have q0 : τ0.2.1 ≤ σ.2.1 + 1 := by rw [← hτ0]; exact n_gt1
  generalize hτ : gt L (fun S => cp4 S old n) τ0 = τ
  have q1 : τ.2.1 ≤ τ0.2.1 + 1 := by rw [← hτ]; exact n_gt1
  have q2 := n_incF (L := L) (σ := τ) (old := old) 4
  generalize incF L old 4 τ = τ2 at q2 ⊢
  have q3 := n_gt1 (L := L) (f := fun S => upd S (327 + 4 * l + i) (nI n)) (σ := τ2)
  generalize gt L (fun S => upd S (327 + 4 * l + i) (nI n)) τ2 = τ3 at q3 ⊢
  have q4 := n_addc (L := L) (c := old) (v := -1) (σ := τ3)
  omega
theorem n_own {l i : Nat} : (own L l i σ).2.2.1 ≤ σ.2.1 + 8 := by
  unfold own
  split
  · exact Nat.le_add_right _ _
  · have := n_own2 (L := L) (l := l) (i := i) (old := tb σ.1 l i) (n := (ncl σ).1) (σ := (ncl σ).2)
    rw [n_ncl] at this
    exact this
theorem n_wp2 {l b t old m : Nat} : (wp2 L l b t old m σ).2.1 ≤ σ.2.1 + 4 := by
  unfold wp2
  generalize hτ0 : gt L (fun S => upd S m (nI 1)) σ = τ0
  have q0 : τ0.2.1 ≤ σ.2.1 + 1 := by rw [← hτ0]; exact n_gt1
  generalize hτ : gt L (fun S => filF S l b m 4) τ0 = τ
  have q1 : τ.2.1 ≤ τ0.2.1 + 1 := by rw [← hτ]; exact n_gt1
  generalize hτ2 : gt L (fun S => upd S (64 + (4 * t + b % 4)) (nI m)) τ = τ2
  have q2 : τ2.2.1 ≤ τ.2.1 + 1 := by rw [← hτ2]; exact n_gt1
  have q4 := n_addc (L := L) (c := old) (v := -1) (σ := τ2)
  omega
theorem n_wp1 {l p t : Nat} {v : Int32} : (wp1 L l p v t σ).2.1 ≤ σ.2.1 + 5 := by
  unfold wp1
  split
  · have q1 := n_wp2 (L := L) (l := l) (b := p / 4) (t := t) (old := dt σ.1 t (p / 4 % 4)) (m := (ncl σ).1) (σ := (ncl σ).2)
    rw [n_ncl] at q1
    generalize wp2 L l (p / 4) t (dt σ.1 t (p / 4 % 4)) (ncl σ).1 (ncl σ).2 = τ at q1 ⊢
    have q3 := n_gt1 (L := L) (f := fun S => upd S (64 + (4 * (ncl σ).1 + p % 4)) v) (σ := τ)
    omega
  · have q3 := n_gt1 (L := L) (f := fun S => upd S (64 + (4 * dt σ.1 t (p / 4 % 4) + p % 4)) v) (σ := σ)
    omega
theorem n_wpl {l p : Nat} {v : Int32} : (wpl L l p v σ).2.1 ≤ σ.2.1 + 13 := by
  unfold wpl
  have h1 := n_own (L := L) (l := l) (i := p / 4 / 4) (σ := σ)
  have h2 := n_wp1 (L := L) (l := l) (p := p) (v := v) (t := (own L l (p / 4 / 4) σ).1) (σ := (own L l (p / 4 / 4) σ).2)
  omega
theorem n_mgF {l bb : Nat} : ∀ p, (mgF L l bb p σ).2.1 ≤ σ.2.1 + 13 * p
  | 0 => Nat.le_refl _
  | p + 1 => by
    have h1 := n_mgF (l := l) (bb := bb) p
    rw [mgF]
    split
    · omega
    · have h2 := n_wpl (L := L) (l := bb) (p := p) (v := rdf (mgF L l bb p σ).1 6 (nI l) p) (σ := mgF L l bb p σ)
      omega
theorem n_mvK {l b : Nat} : ∀ k, (mvK L l b k σ).2.1 ≤ σ.2.1 + 13 * k
  | 0 => Nat.le_refl _
  | k + 1 => by
    have h1 := n_mvK (l := l) (b := b) k
    have h2 := n_wpl (L := L) (l := l) (p := 4 * b + k) (v := rdf (mvK L l b k σ).1 6 (nI l) (4 * b + k)) (σ := mvK L l b k σ)
    rw [mvK]
    omega
theorem n_mvF {l : Nat} {y : Int32} : ∀ b, (mvF L l y b σ).2.1 ≤ σ.2.1 + 52 * b
  | 0 => Nat.le_refl _
  | b + 1 => by
    have h1 := n_mvF (l := l) (y := y) b
    rw [mvF]
    split
    · have h2 := n_mvK (L := L) (l := l) (b := b) (σ := mvF L l y b σ) 4
      omega
    · omega
theorem n_rwF {l : Nat} : ∀ k, (rwF L l k σ).2.1 ≤ σ.2.1 + 13 * k
  | 0 => Nat.le_refl _
  | k + 1 => by
    have h1 := n_rwF (l := l) k
    have h2 := n_wpl (L := L) (l := l) (p := k) (v := rdf (rwF L l k σ).1 6 (nI l) k) (σ := rwF L l k σ)
    rw [rwF]
    omega
theorem n_rlk {t : Nat} : ∀ f k (σ : Sg), (rlk L t f k σ).2.1 ≤ σ.2.1 + f
  | 0, _, _ => Nat.le_refl _
  | f + 1, k, σ => by
    unfold rlk
    split
    · have h1 := n_rlk (t := t) f (k + 1) (addc L (dt σ.1 t k) (-1) σ)
      have h2 := n_addc (L := L) (c := dt σ.1 t k) (v := -1) (σ := σ)
      omega
    · omega
theorem n_rel1 {t : Nat} : (rel1 L t σ).2.1 ≤ σ.2.1 + 5 := by
  unfold rel1
  split
  · omega
  · have h1 := n_rlk (L := L) (t := t) 4 0 (addc L t (-1) σ)
    have h2 := n_addc (L := L) (c := t) (v := -1) (σ := σ)
    omega
theorem n_rlF {T : Nat → Nat} : ∀ i, (rlF L T i σ).2.1 ≤ σ.2.1 + 5 * i
  | 0 => Nat.le_refl _
  | i + 1 => by
    have h1 := n_rlF (T := T) i
    have h2 := n_rel1 (L := L) (t := T i) (σ := rlF L T i σ)
    rw [rlF]
    omega
theorem n_csF {dd : Nat} : ∀ i, (csF L dd i σ).2.1 ≤ σ.2.1 + i
  | 0 => Nat.le_refl _
  | i + 1 => by
    have h1 := n_csF (dd := dd) i
    have h2 := n_addc (L := L) (c := tb (csF L dd i σ).1 dd i) (v := nI 1) (σ := csF L dd i σ)
    rw [csF]
    omega
theorem n_fo1 {Q : Nat → Bool} {t k : Nat} : (fo1 L Q t k σ).2.1 ≤ σ.2.1 + 3 := by
  unfold fo1
  split
  · generalize lae σ.1 Q (dt σ.1 t k) = e
    have h1 := n_addc (L := L) (c := e) (v := nI 1) (σ := σ)
    generalize addc L e (nI 1) σ = τ at h1 ⊢
    have h2 := n_gt1 (L := L) (f := fun S => upd S (64 + (4 * t + k)) (nI e)) (σ := τ)
    generalize gt L (fun S => upd S (64 + (4 * t + k)) (nI e)) τ = τ2 at h2 ⊢
    have h3 := n_addc (L := L) (c := dt σ.1 t k) (v := -1) (σ := τ2)
    omega
  · omega
theorem n_foK {Q : Nat → Bool} {t : Nat} : ∀ k, (foK L Q t k σ).2.1 ≤ σ.2.1 + 3 * k
  | 0 => Nat.le_refl _
  | k + 1 => by
    have h1 := n_foK (Q := Q) (t := t) k
    have h2 := n_fo1 (L := L) (Q := Q) (t := t) (k := k) (σ := foK L Q t k σ)
    rw [foK]
    omega
theorem n_foF {P Q : Nat → Bool} : ∀ t, (foF L P Q t σ).2.1 ≤ σ.2.1 + 12 * t
  | 0 => Nat.le_refl _
  | t + 1 => by
    have h1 := n_foF (P := P) (Q := Q) t
    rw [foF]
    split
    · have h2 := n_foK (L := L) (Q := Q) (t := t) (σ := foF L P Q t σ) 4
      omega
    · omega
theorem n_act {kd : Nat} {a b c : Int32} : (act S kd a b c L σ).2.1 ≤ σ.2.1 + 900 := by
  unfold act
  split
  · have := n_wpl (L := L) (l := a.toNatClampNeg) (p := b.toNatClampNeg) (v := c) (σ := σ)
    omega
  · unfold snp
    have h1 := n_csF (L := L) (dd := a.toNatClampNeg) (σ := σ) 4
    have h2 := n_gt1 (L := L) (f := fun S' => wrec S' a.toNatClampNeg (lms S)) (σ := csF L a.toNatClampNeg 4 σ)
    omega
  · unfold drp
    have h1 := n_gt1 (L := L) (f := fun S => upd S (383 + a.toNatClampNeg) (nI 0)) (σ := σ)
    have h2 := n_rlF (L := L) (T := fun i => tb σ.1 (6 + a.toNatClampNeg) i) (σ := gt L (fun S => upd S (383 + a.toNatClampNeg) (nI 0)) σ) 4
    omega
  · unfold rvt
    generalize (sn S a.toNatClampNeg).toNatClampNeg = l
    have h1 := n_csF (L := L) (dd := 6 + a.toNatClampNeg) (σ := σ) 4
    generalize csF L (6 + a.toNatClampNeg) 4 σ = τ at h1 ⊢
    have h2 := n_gt1 (L := L) (f := fun S => wdir S l (6 + a.toNatClampNeg)) (σ := τ)
    generalize gt L (fun S => wdir S l (6 + a.toNatClampNeg)) τ = τ2 at h2 ⊢
    have h3 := n_rlF (L := L) (T := fun i => tb σ.1 l i) (σ := τ2) 4
    omega
  · unfold gvu
    split
    · omega
    · have h1 := n_own (L := L) (l := a.toNatClampNeg) (i := b.toNatClampNeg / 4) (σ := σ)
      generalize own L a.toNatClampNeg (b.toNatClampNeg / 4) σ = τ at h1 ⊢
      have h2 := n_gt1 (L := L) (f := fun S => upd S (64 + (4 * τ.1 + b.toNatClampNeg % 4)) (nI 0)) (σ := τ.2)
      generalize gt L (fun S => upd S (64 + (4 * τ.1 + b.toNatClampNeg % 4)) (nI 0)) τ.2 = τ2 at h2 ⊢
      have h3 := n_addc (L := L) (c := dof σ.1 a.toNatClampNeg b.toNatClampNeg) (v := -1) (σ := τ2)
      omega
  · unfold mrg
    generalize (bk S a.toNatClampNeg).toNatClampNeg = bb
    have h1 := n_mgF (L := L) (l := a.toNatClampNeg) (bb := bb) (σ := σ) 64
    generalize mgF L a.toNatClampNeg bb 64 σ = τ at h1 ⊢
    have h2 := n_gt1 (L := L) (f := fun S => wdr0 S a.toNatClampNeg) (σ := τ)
    generalize gt L (fun S => wdr0 S a.toNatClampNeg) τ = τ2 at h2 ⊢
    have h3 := n_rlF (L := L) (T := fun i => tb τ.1 a.toNatClampNeg i) (σ := τ2) 4
    omega
  · unfold mov
    have h1 : (if c.toNatClampNeg = 1 then mvF L a.toNatClampNeg b 16 σ else σ).2.1 ≤ σ.2.1 + 832 := by
      split
      · have := n_mvF (L := L) (l := a.toNatClampNeg) (y := b) (σ := σ) 16
        omega
      · omega
    generalize (if c.toNatClampNeg = 1 then mvF L a.toNatClampNeg b 16 σ else σ) = τ at h1 ⊢
    have h2 := n_gt1 (L := L) (f := fun S => upd S (321 + a.toNatClampNeg) b) (σ := τ)
    omega
  · unfold fol
    have := n_foF (L := L) (P := fun t => dec (isT σ.1 0 14 t)) (Q := fun c => dec (isD σ.1 (fun t => dec (isT σ.1 0 14 t)) c)) (σ := σ) 64
    omega
end CST
