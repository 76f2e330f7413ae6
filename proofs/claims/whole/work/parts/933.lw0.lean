/-! ===== the start: what both constructors leave ===== -/
def S0 : St := upd z0 399 (-1)
def nbF : Nat → Int32 := fun k => nI (nbo k)
def hI (xs : Nat → Int32) : mH := fun r => match r with
  | .inl (_, 0) => upd z0 6 (-1)
  | .inl (_, 4) => flF 6 (-1)
  | .inl (_, 5) => flF 8 (-1)
  | .inr 2 => upd z0 1 6
  | .inr 4 => upd z0 4 (-1)
  | .inr 8 => S0
  | .inr 20 => nbF
  | .inr 22 => xs
  | _ => z0
def gI : Gs := (S0, S0, false, z0, 0, 0, fun _ => 0)
theorem S0_prs : ∀ d, d < 14 → prs S0 d = false := by decide +kernel
theorem S0_tb (d k : Nat) (hd : d < 14) : tb S0 d k = 0 := by
  unfold tb
  rw [S0_prs d hd]
  rfl
theorem S0_wf : WF S0 := by
  have hm : mn S0 = 0 := by decide +kernel
  refine ⟨⟨by decide +kernel, by decide +kernel⟩, by decide +kernel, fun d k hd _ h => ?_, fun l _ hl k hk => ?_, fun t h => ?_, by decide +kernel, fun l hl => ?_, ⟨fun _ => 0, fun l b hl => ?_⟩, fun s hs h => ?_, Or.inl (by decide +kernel)⟩
  · rw [S0_prs d hd] at h
    cases h
  · exact (by decide +kernel : ∀ l, l < 6 → ∀ k, k < 4 → S0 (327 + 4 * l + k) = nI 0) l hl k hk
  · obtain ⟨h0, d, k, -, hd, -, e⟩ := h
    rw [S0_tb d k hd] at e
    exact absurd e.symm h0
  · rw [hm] at hl
    omega
  · rw [hm] at hl
    omega
  · exact absurd h ((by decide +kernel : ∀ s, s < 8 → ¬ S0 (383 + s) = nI 1) s hs)
theorem S0_bd : BD S0 1000 := by
  intro c hc
  have : ∀ c, c < 64 → S0 c = 0 := by decide +kernel
  rw [this c hc]
  decide
theorem S0_cr (xs : Nat → Int32) (i : Fin 3) : CR (hI xs) i S0 := by
  refine ⟨?_, ?_, fun d k hd _ => ?_, ?_, ?_, ?_, by decide +kernel, ?_⟩
  · exact (by decide +kernel : ∀ j, j < 256 → z0 j = S0 (64 + j))
  · exact (by decide +kernel : ∀ j, j < 64 → z0 j = S0 j)
  · rw [S0_tb d k hd]
    rfl
  · exact (by decide +kernel : ∀ l, l < 6 → flF 6 (-1) l = bk S0 l)
  · exact (by decide +kernel : ∀ l, l < 8 → flF 8 (-1) l = sn S0 l)
  · exact (by decide +kernel : upd z0 6 (-1) 5 = nI (mn S0))
  · exact (by decide +kernel : upd z0 6 (-1) 6 = S0 399)
theorem lw_init (xs : Nat → Int32) : LW 1000 (hI xs) gI := by
  refine ⟨⟨S0_cr xs 0, (fun h => by cases h), ?_, ?_, fun j _ => rfl, ?_, Nat.zero_le _, fun j hj => absurd hj (Nat.not_lt_zero _)⟩, ⟨fun j _ => rfl, (fun h => by cases h), ?_, ?_, fun j _ => rfl, ?_, Nat.zero_le _, fun j hj => absurd hj (Nat.not_lt_zero _)⟩, ⟨S0_wf, S0_bd, (fun h => by cases h), fun j hj => absurd hj (Nat.not_lt_zero _), Nat.zero_le _⟩, fun k _ => rfl⟩
  · exact (by decide +kernel : z0 5 = tI false)
  · rfl
  · exact (by decide +kernel : upd z0 4 (-1) 2 = nI 0)
  · exact (by decide +kernel : z0 3 = tI false)
  · rfl
  · exact (by decide +kernel : z0 15 = nI 0)
theorem crd_eq : ∀ f, crd f = 110000 + f * 108000
  | 0 => rfl
  | f + 1 => by rw [crd_s, crd_eq f, Nat.add_mul, Nat.one_mul, Nat.add_assoc]
theorem law_all {sL : Nat} (hs : sL ≤ 2560) (xs : Nat → Int32) : EX (Kd sL 13) sL md_L_law (pI fun x _ => x = nI 1) 0 (lsL 0) [] (hI xs) := by
  refine law_loop (d := 0) hs 512 0 0 1000 (hI xs) gI rfl (Nat.zero_le _) (by omega) (Nat.le_refl _) ?_ (lw_init xs) (fun _ => rfl)
  rw [crd_eq]
  decide
