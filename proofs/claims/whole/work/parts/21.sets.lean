/-! ===== sets as bits of a long ===== -/
def tbit (x : Int64) (c : Nat) : Bool := x.toBitVec.getLsbD c
theorem tbit_ext {x y : Int64} (h : ∀ c, c < 64 → tbit x c = tbit y c) : x = y := by
  apply Int64.toBitVec_inj.mp
  apply BitVec.eq_of_getLsbD_eq
  intro i hi
  exact h i hi
theorem tbit_or (x y : Int64) (c : Nat) : tbit (x ||| y) c = (tbit x c || tbit y c) := by
  simp [tbit]
theorem tbit_and (x y : Int64) (c : Nat) : tbit (x &&& y) c = (tbit x c && tbit y c) := by
  simp [tbit]
theorem tbit_xor (x y : Int64) (c : Nat) : tbit (x ^^^ y) c = (tbit x c ^^ tbit y c) := by
  simp [tbit]
theorem shl_1 : ∀ k, k < 64 → (lN 1 <<< ((nI k).toInt64 &&& 63)).toBitVec = BitVec.twoPow 64 k := by decide +kernel
theorem tbit_shl {k c : Nat} (hk : k < 64) : tbit (lN 1 <<< ((nI k).toInt64 &&& 63)) c = decide (c = k) := by
  unfold tbit
  rw [shl_1 k hk, BitVec.getLsbD_twoPow]
  by_cases h : k = c
  · subst h; simp [hk]
  · have h2 : ¬ c = k := fun z => h z.symm
    simp [h, h2]
theorem tbit_0 (c : Nat) : tbit (lN 0) c = false := by
  have e : (lN 0).toBitVec = 0#64 := by decide
  simp [tbit, e]
theorem tbit_m2 : ∀ c, c < 64 → tbit (lN 18446744073709551614) c = decide (c ≠ 0) := by decide +kernel
theorem tbit_m1 : ∀ c, c < 64 → tbit (lN 18446744073709551615) c = true := by decide +kernel
theorem tbit_1 : ∀ c, c < 64 → tbit (lN 1) c = decide (c = 0) := by decide +kernel
theorem ushr_k : ∀ k, k < 64 → ((nI k).toInt64.toUInt64 &&& Int64.toUInt64 63).toBitVec % 64 = BitVec.ofNat 64 k := by decide +kernel
theorem tbit_ushr {x : Int64} {k c : Nat} (hk : k < 64) : tbit (x.toUInt64 >>> ((nI k).toInt64.toUInt64 &&& Int64.toUInt64 63)).toInt64 c = tbit x (k + c) := by
  unfold tbit
  have e : (x.toUInt64 >>> ((nI k).toInt64.toUInt64 &&& Int64.toUInt64 63)).toInt64.toBitVec = x.toBitVec >>> (((nI k).toInt64.toUInt64 &&& Int64.toUInt64 63).toBitVec % 64) := rfl
  rw [e, ushr_k k hk]
  simp [BitVec.getLsbD_ushiftRight]
  congr 1
  omega
theorem lg_cmp0 {x y : Int64} : (lg_cmp x y = 0) = (x = y) := by
  unfold lg_cmp
  by_cases h1 : x > y
  · rw [if_pos h1]
    have h2 : ¬ x = y := fun e => by subst e; exact Int64.lt_irrefl h1
    simp only [h2, eq_iff_iff, iff_false]
    decide
  · rw [if_neg h1]
    by_cases h2 : x = y
    · simp [h2]
    · simp only [h2, if_false, eq_iff_iff, iff_false]
      decide
def lOr (P : Nat → Bool) : Nat → Int64
  | 0 => lN 0
  | n + 1 => if P n then lOr P n ||| (lN 1 <<< ((nI n).toInt64 &&& 63)) else lOr P n
theorem tbit_lOr (P : Nat → Bool) : ∀ (n c : Nat), n ≤ 64 → tbit (lOr P n) c = (decide (c < n) && P c)
  | 0, c, _ => by simp [lOr, tbit_0]
  | n + 1, c, h => by
    have ih := tbit_lOr P n c (by omega)
    unfold lOr
    by_cases hc : c = n
    · subst hc
      split
      · rename_i hp
        rw [tbit_or, tbit_shl (by omega)]
        simp [hp]
      · rename_i hp
        rw [ih]
        simp [hp]
    · have h2 : decide (c < n + 1) = decide (c < n) := by
        by_cases h3 : c < n
        · simp [h3]; omega
        · simp [h3]; omega
      split
      · rw [tbit_or, tbit_shl (by omega), ih, h2]
        simp [hc]
      · rw [ih, h2]
theorem lOr_congr {P Q : Nat → Bool} : ∀ {n : Nat}, (∀ c, c < n → P c = Q c) → lOr P n = lOr Q n
  | 0, _ => rfl
  | n + 1, h => by rw [lOr, lOr, lOr_congr (fun c hc => h c (by omega)), h n (by omega)]
theorem lOr_eq {x : Int64} {P : Nat → Bool} (h : ∀ c, c < 64 → tbit x c = P c) : x = lOr P 64 := by
  apply tbit_ext
  intro c hc
  rw [tbit_lOr P 64 c (by omega), h c hc]
  simp [hc]
theorem lOr_0 {P : Nat → Bool} : (lOr P 64 = lN 0) = (∀ c, c < 64 → P c = false) := by
  apply propext
  constructor
  · intro h c hc
    have := tbit_lOr P 64 c (by omega)
    rw [h, tbit_0] at this
    simpa [hc] using this.symm
  · intro h
    apply tbit_ext
    intro c hc
    rw [tbit_lOr P 64 c (by omega), tbit_0, h c hc]
    simp
def iOr (P : Nat → Bool) : Nat → Int32
  | 0 => nI 0
  | n + 1 => if P n then iOr P n ||| (nI 1 <<< (nI n &&& 31)) else iOr P n
theorem iOr_congr {P Q : Nat → Bool} : ∀ {n : Nat}, (∀ c, c < n → P c = Q c) → iOr P n = iOr Q n
  | 0, _ => rfl
  | n + 1, h => by rw [iOr, iOr, iOr_congr (fun c hc => h c (by omega)), h n (by omega)]
