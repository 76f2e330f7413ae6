/-! ===== numbers ===== -/
theorem n_ne0 {k : Nat} (h : 0 < k) (h2 : k < 2 ^ 31) : ¬ nI k = 0 := nI_ne0 h h2
theorem n_lt {a b : Nat} (ha : a < 2 ^ 31) (hb : b < 2 ^ 31) : (nI a < nI b) = (a < b) := propext (nI_ltI ha hb)
theorem n_le {a b : Nat} (ha : a < 2 ^ 31) (hb : b < 2 ^ 31) : (nI a ≤ nI b) = (a ≤ b) := propext (nI_leI ha hb)
theorem n_eq {a b : Nat} (ha : a < 2 ^ 31) (hb : b < 2 ^ 31) : (nI a = nI b) = (a = b) := propext (nI_eq ha hb)
theorem n_lt0 {a : Nat} (ha : a < 2 ^ 31) : (nI a < 0) = False := eq_false (nI_pos ha)
theorem n_le0 {a : Nat} (ha : a < 2 ^ 31) : (nI a ≤ 0) = (a = 0) := by
  rw [← nI_0]
  exact propext ((nI_leI ha (by decide)).trans Nat.le_zero)
theorem n_eq0 {a : Nat} (ha : a < 2 ^ 31) : (nI a = 0) = (a = 0) := by
  rw [← nI_0]
  exact propext (nI_eq ha (by decide))
theorem n_ge0 {a : Nat} (ha : a < 2 ^ 31) : (0 ≤ nI a) = True := eq_true (nI_pos' ha)
theorem n_gt0 {a : Nat} (ha : a < 2 ^ 31) : (0 < nI a) = (0 < a) := by
  rw [← nI_0]
  exact propext (nI_ltI (by decide) ha)
theorem n_m1 {a : Nat} (ha : a < 2 ^ 31) : (nI a = -1) = False := by
  apply eq_false
  intro h
  have h1 := congrArg Int32.toInt h
  rw [nI_toInt ha] at h1
  have h2 : (-1 : Int32).toInt = -1 := by decide
  omega
theorem n_in {a n : Nat} (ha : a < 2 ^ 31) (hn : n < 2 ^ 31) : vp_in (nI a) n = (a < n) := by
  apply propext
  rw [vp_in_iff, nI_toInt ha]
  omega
theorem n_div {a d : Nat} (ha : a < 2 ^ 31) (h0 : 0 < d) (hd : d < 2 ^ 31) : nI a / nI d = nI (a / d) := pk_div ha h0 hd
theorem n_rem {a d : Nat} (ha : a < 2 ^ 31) (h0 : 0 < d) (hd : d < 2 ^ 31) : nI a - nI a / nI d * nI d = nI (a % d) := pk_rem ha h0 hd
theorem n_rem2 {a d : Nat} : nI a - nI (a / d * d) = nI (a % d) := by
  rw [pk_sub (Nat.div_mul_le_self a d), Nat.mod_eq_sub_div_mul]
theorem n_sub {a b : Nat} (h : b ≤ a) : nI a - nI b = nI (a - b) := pk_sub h
theorem bz_0 : bz (nI 0) = True := eq_true (Or.inl rfl)
theorem bz_1 : bz (nI 1) = True := eq_true (Or.inr rfl)
theorem n4 : ¬ nI 4 = 0 := by decide
theorem n16 : ¬ nI 16 = 0 := by decide
theorem n10 : ¬ nI 0 = nI 1 := by decide
theorem n01 : nI 1 ≠ 0 := by decide
theorem n00 : nI 0 = 0 := rfl
/-- an int is negative, or a number -/
theorem i_cases (x : Int32) : x < 0 ∨ ∃ k : Nat, k < 2 ^ 31 ∧ x = nI k := by
  by_cases h : x < 0
  · exact Or.inl h
  · exact Or.inr (nI_of h)
theorem neg_not {x : Int32} (h : x < 0) {k : Nat} (hk : k < 2 ^ 31) : x ≠ nI k := by
  intro e
  rw [e, n_lt0 hk] at h
  exact h
theorem b_if {c : Prop} {A B : Prop} (h : c) (a : A) : (c → A) ∧ (¬ c → B) := ⟨fun _ => a, fun z => absurd h z⟩
/-- truth as an int -/
def tI (b : Bool) : Int32 := if b then nI 1 else nI 0
theorem tI_0 {b : Bool} : (tI b = 0) = (b = false) := by cases b <;> simp [tI] <;> decide
theorem tI_bz {b : Bool} : bz (tI b) = True := by cases b <;> simp [tI, bz] <;> decide
