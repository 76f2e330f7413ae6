/-! ===== the state as a row of 400 numbers (as the reference keeps it), and what is read off it ===== -/
abbrev St : Type := Nat → Int32
/-- a number of a cluster, 0 for any other -/
def cl (x : Int32) : Nat := if 0 < x ∧ x < nI 64 then x.toNatClampNeg else 0
theorem cl_lt (x : Int32) : cl x < 64 := by
  unfold cl
  split
  · rename_i h
    have h1 := Int32.lt_iff_toInt_lt.mp h.2
    have h2 : (nI 64).toInt = 64 := by decide
    show x.toInt.toNat < 64
    omega
  · decide
theorem cl_n {k : Nat} (h : k < 64) : cl (nI k) = k := by
  unfold cl
  by_cases hk : k = 0
  · subst hk; rfl
  · rw [if_pos ⟨by rw [n_gt0 (by omega)]; omega, by rw [n_lt (by omega) (by omega)]; omega⟩]
    exact nI_clamp (by omega)
theorem cl_le {x : Int32} (h : x ≤ 0) : cl x = 0 := by
  unfold cl
  rw [if_neg]
  exact fun z => Int32.not_lt.mpr h z.1
theorem cl_ge {x : Int32} (h : nI 64 ≤ x) : cl x = 0 := by
  unfold cl
  rw [if_neg]
  exact fun z => Int32.not_lt.mpr h z.2
theorem cl_in {x : Int32} (h : ¬ x ≤ 0) (h2 : ¬ nI 64 ≤ x) : nI (cl x) = x := by
  have h1 := Int32.not_le.mp h
  unfold cl
  rw [if_pos ⟨h1, Int32.not_le.mp h2⟩]
  obtain ⟨k, hk, rfl⟩ := (i_cases x).resolve_left (fun z => Int32.not_lt.mpr (Int32.le_of_lt h1) z)
  rw [nI_clamp hk]
/-- how many layers; who is there (layers 0 to 5, snapshots 6 to 13); tables; data -/
def mn (S : St) : Nat := (S 320).toNatClampNeg
def prs (S : St) (d : Nat) : Bool := if d < 6 then decide (d < mn S) else decide (S (377 + d) = nI 1)
def tb (S : St) (d k : Nat) : Nat := if prs S d then cl (S (327 + 4 * d + k)) else 0
def dt (S : St) (t k : Nat) : Nat := if t = 0 then 0 else cl (S (64 + 4 * t + k))
def dof (S : St) (d b : Nat) : Nat := dt S (tb S d (b / 4)) (b % 4)
theorem tb_lt (S : St) (d k : Nat) : tb S d k < 64 := by
  unfold tb
  split
  · exact cl_lt _
  · decide
theorem dt_lt (S : St) (t k : Nat) : dt S t k < 64 := by
  unfold dt
  split
  · decide
  · exact cl_lt _
theorem dof_lt (S : St) (d b : Nat) : dof S d b < 64 := dt_lt _ _ _
def bk (S : St) (l : Nat) : Int32 := if l < mn S then S (321 + l) else -1
def sn (S : St) (s : Nat) : Int32 := if S (383 + s) = nI 1 then S (391 + s) else -1
/-- what a place of a layer is, by at most so many layers -/
def rdf (S : St) : Nat → Int32 → Nat → Int32
  | 0, _, _ => nI 0
  | f + 1, l, p => if 0 ≤ l ∧ l < nI 6 then (if dof S l.toNatClampNeg (p / 4) = 0 then rdf S f (bk S l.toNatClampNeg) p else S (64 + (4 * dof S l.toNatClampNeg (p / 4) + p % 4))) else nI 0
/-- image i of the heap is S -/
def CR (h : mH) (i : Fin 3) (S : St) : Prop :=
  (∀ j, j < 256 → h (.inl (i, 1)) j = S (64 + j)) ∧ (∀ j, j < 64 → h (.inl (i, 2)) j = S j) ∧ (∀ d k, d < 14 → k < 4 → h (.inl (i, 3)) (4 * d + k) = nI (tb S d k)) ∧ (∀ l, l < 6 → h (.inl (i, 4)) l = bk S l) ∧ (∀ s, s < 8 → h (.inl (i, 5)) s = sn S s) ∧ h (.inl (i, 0)) 5 = nI (mn S) ∧ mn S ≤ 6 ∧ h (.inl (i, 0)) 6 = S 399
/-- truth of an answer -/
theorem pt {c : Prop} [Decidable c] {p : Int32 → mH → Prop} {h : mH} (hp : p (tI (decide c)) h) (hc : c) : p (nI 1) h := by simpa [tI, hc] using hp
theorem pf {c : Prop} [Decidable c] {p : Int32 → mH → Prop} {h : mH} (hp : p (tI (decide c)) h) (hc : ¬ c) : p (nI 0) h := by simpa [tI, hc] using hp
/-- truth of any statement -/
noncomputable def dec (c : Prop) : Bool := @decide c (Classical.propDecidable c)
theorem dec_t {c : Prop} : (dec c = true) = c := by
  unfold dec
  exact propext (@decide_eq_true_iff c (Classical.propDecidable c))
theorem dec_f {c : Prop} : (dec c = false) = ¬ c := by
  apply propext
  rw [← Bool.not_eq_true, dec_t]
theorem dec_iff {a b : Prop} (h : a ↔ b) : dec a = dec b := by rw [propext h]
theorem dec_or {a b : Prop} : (dec a || dec b) = dec (a ∨ b) := by
  rw [Bool.eq_iff_iff]
  simp only [Bool.or_eq_true, dec_t]
theorem dec_and {a b : Prop} : (dec a && dec b) = dec (a ∧ b) := by
  rw [Bool.eq_iff_iff]
  simp only [Bool.and_eq_true, dec_t]
theorem dec_dec {c : Prop} [Decidable c] : decide c = dec c := by
  rw [Bool.eq_iff_iff]
  simp only [decide_eq_true_eq, dec_t]
theorem bool_dec (b : Bool) : b = dec (b = true) := by
  rw [Bool.eq_iff_iff]
  simp only [dec_t]
theorem pdt {c : Prop} {p : Int32 → mH → Prop} {h : mH} (hp : p (tI (dec c)) h) (hc : c) : p (nI 1) h := by
  rw [show dec c = true by rw [dec_t]; exact hc] at hp; exact hp
theorem pdf {c : Prop} {p : Int32 → mH → Prop} {h : mH} (hp : p (tI (dec c)) h) (hc : ¬ c) : p (nI 0) h := by
  rw [show dec c = false by rw [dec_f]; exact hc] at hp; exact hp
/-- cells alike -/
def alk (S : St) (c e : Nat) : Prop := ∀ k, k < 4 → S (64 + 4 * c + k) = S (64 + 4 * e + k)
/-- a table that a directory of a holder from a on below b names; data that tables name -/
def isT (S : St) (a b t : Nat) : Prop := t ≠ 0 ∧ ∃ d k, a ≤ d ∧ d < b ∧ k < 4 ∧ tb S d k = t
def isD (S : St) (P : Nat → Bool) (c : Nat) : Prop := c ≠ 0 ∧ ∃ t k, 1 ≤ t ∧ t < 64 ∧ k < 4 ∧ P t = true ∧ dt S t k = c
