/-! ===== calls ===== -/
def wsX : List Cond := .code yJ0_indexOf_0f7a4 cJ0_indexOf_0f7a4 2 (some .int) :: gtbl
/-- the one call of a text's method -/
def XSound (l : Launch) (w : mW) (d : Nat) (M : mK) : Prop := ∀ (as : List mV) (h : mH) (post : mP), M 900 as h post → Met l yJ0_indexOf_0f7a4 wsX (rmD d) (va_Pc (as.map (tv w.1)) (mPre w h)) (mQ w post) 0 0 w.2.2.2.2.1 ∧ ∃ x, as = [.inr (.inr (.inr 21)), .inl x]
def xOk : Prop := (∀ w ∈ wsX, w ∈ gtbl) ∧ Cond.methodLink RX1 44 yJ0_indexOf_0f7a4 ∈ gtbl ∧ Cond.instanceMethod yJ0_indexOf_0f7a4 ∈ gtbl ∧ Cond.selects "java/lang/String" yJ0_indexOf_0f7a4 yJ0_indexOf_0f7a4 ∈ gtbl ∧ Cond.initialized "java/lang/String" ∈ gtbl
section CL
variable {p : Program} {l : Launch} {e : Env} {R : Room} {s : State} {m : MethodId} {args : Array Value} {below : List Frame} {meth : Method} {c : Code} {H : Heap} {locs : List Loc} {cells slots : Nat} {Q : State → Prop} {cc : ByteArray} {pc nL d : Nat} {own : String} {lk : mLk} {w : mW} {real : Array Slot} {h : mH} {rest : List Value} {post : mP} {M : mK}
theorem sn_pre {as : List mV} {locs : List Loc} (C0 : Cx p R s m args c cc nL own lk w d) (hR : Rl w s h H locs) (U : State) (hU : U.heap = H) (hW : s.WarmedH U.vm) : va_Pc (as.map (tv w.1)) (mPre w h) (as.map (tv w.1)).toArray U :=
  ⟨rfl, by rw [hU]; exact hR.1, va_K.moved hW.alike C0.2.1, hR.2.1, hR.2.2.2, C0.2.2.1.to hR.2.2.1 hU hW⟩
theorem sn_runV {i y n : Nat} {as : List mV} (C0 : Cx p R s m args c cc nL own lk w d) (hM : MetY l w d y as h post) (hrc : rcv (mth y).2.2.2.2.2.1 as) (hlk : lnkOk own i 0 y n) (hn : as.length = n) (hR : Rl w s h H locs) (hsz : real.size = nL) (hf : cells ≤ R.cells ∧ slots ≤ R.slots) (hrest : (rest.map fun v => v.category).sum ≤ 8) (hd : decode cc pc = .ok (.invokevirtual i, 3)) :
    va_Run p l e R s m args below meth c H locs cells slots 0 0 (F0 m pc real ((as.reverse.map (tv w.1)) ++ rest)) rest (mQ w post (as.map (tv w.1)).toArray) w.2.2.2.2.1 := by
  obtain ⟨hy, h1, hds, g1, g2, g3, k, T, N, hk, hcl⟩ := hlk
  have hmo := C0.2.2.2.2.2.1 y hy
  rw [hk] at hrc
  have hpre := fun U hU hW => sn_pre (as := as) C0 hR U hU hW
  obtain ⟨⟨hx, hb, hml, hown, hts⟩, hK, hE, hG, -, -, hf1, hf2⟩ := id C0
  match as, hrc, hM, hn, hpre with
  | .inr (.inr r) :: As, hrc, hM, hn, hpre =>
    have hrc : (obj r).1 = k := hrc
    have hne : (obj r).1 ≠ 99 := by
      have := (List.getElem?_eq_some_iff.mp hcl).1
      simp [vwCl] at this
      omega
    have e1 : ((Sum.inr (Sum.inr r) :: As : List mV).reverse.map (tv w.1)) ++ rest = (As.map (tv w.1)).reverse ++ Value.ref (w.1 r) :: rest := by
      simp [tv]
    rw [e1]
    refine va_runV (C := (mth y).1.cls) (bytes := (mth y).2.1) (maxL := (mth y).2.2.1) (ret := (mth y).2.2.2.1) (n := n - 1) (index := i) (b := w.1 r) (As := As.map (tv w.1)) ⟨hx, hb, hml, hown, hts⟩ hM (cwV (ws' := gtbl) (n - 1) hts (good_app (a := [.methodLink own i (mth y).1, .instanceMethod (mth y).1, .selects (mth y).1.cls (mth y).1 (mth y).1, .initialized (mth y).1.cls]) ?_ (good_ws hmo)) rfl rfl rfl ⟨rfl, hmo.2.2.1.1, hmo.2.2.1.2, hds⟩ ⟨?_, ?_⟩) ⟨mPre_blind w h _, va_recv hK hR.1 hcl (by rw [wl_obj hne, hrc]), hpre⟩ rfl ?_ hsz rfl ?_ hd ⟨hf.1, hf.2⟩
    · intro q hq
      simp only [List.mem_cons, List.not_mem_nil, or_false] at hq
      rcases hq with rfl | rfl | rfl | rfl
      · exact g1
      · exact g2
      · exact g3
      · exact hmo.2.1
    · show d + 1 ≤ R.frames; exact hf1
    · have := hmo.2.2.2.1
      show 8 + ((mth y).2.2.1 + 11) + 41 * d ≤ R.locals
      omega
    · simp only [List.length_cons] at hn
      simp; omega
    · show 2 * 0 + _ ≤ 8; omega
theorem sn_runS {i y n : Nat} {as : List mV} (C0 : Cx p R s m args c cc nL own lk w d) (hM : MetY l w d y as h post) (hlk : lnkOk own i 1 y n) (hn : as.length = n) (hR : Rl w s h H locs) (hsz : real.size = nL) (hf : cells ≤ R.cells ∧ slots ≤ R.slots) (hrest : (rest.map fun v => v.category).sum ≤ 8) (hd : decode cc pc = .ok (.invokestatic i, 3)) :
    va_Run p l e R s m args below meth c H locs cells slots 0 0 (F0 m pc real ((as.reverse.map (tv w.1)) ++ rest)) rest (mQ w post (as.map (tv w.1)).toArray) w.2.2.2.2.1 := by
  obtain ⟨hy, hds, g1, g2⟩ := hlk
  have hmo := C0.2.2.2.2.2.1 y hy
  have hpre := fun U hU hW => sn_pre (as := as) C0 hR U hU hW
  obtain ⟨⟨hx, hb, hml, hown, hts⟩, hK, hE, hG, -, -, hf1, hf2⟩ := id C0
  refine va_runS (bytes := (mth y).2.1) (maxL := (mth y).2.2.1) (ret := (mth y).2.2.2.1) (n := n) (index := i) (As := as.map (tv w.1)) ⟨hx, hb, hml, hown, hts⟩ hM (va_cwS (ws' := gtbl) n hts (good_app (a := [.methodLink own i (mth y).1, .static (mth y).1, .initialized (mth y).1.cls]) ?_ (good_ws hmo)) rfl rfl rfl ⟨hmo.2.2.1.1, hmo.2.2.1.2, hds⟩ ⟨?_, ?_⟩) ⟨mPre_blind w h _, hpre⟩ rfl ?_ hsz ?_ ?_ hd ⟨hf.1, hf.2⟩
  · intro q hq
    simp only [List.mem_cons, List.not_mem_nil, or_false] at hq
    rcases hq with rfl | rfl | rfl
    · exact g1
    · exact g2
    · exact hmo.2.1
  · show d + 1 ≤ R.frames; exact hf1
  · have := hmo.2.2.2.1
    show 8 + ((mth y).2.2.1 + 11) + 41 * d ≤ R.locals
    omega
  · simp [hn]
  · simp
  · show 2 * 0 + _ ≤ 8; omega
theorem sn_runN {i y n : Nat} {as : List mV} (C0 : Cx p R s m args c cc nL own lk w d) (hM : MetY l w d y as h post) (hlk : lnkOk own i 2 y n) (hn : as.length = n) (hR : Rl w s h H locs) (hsz : real.size = nL) (hf : cells ≤ R.cells ∧ slots ≤ R.slots) (hrest : (rest.map fun v => v.category).sum ≤ 8) (hd : decode cc pc = .ok (.invokestatic i, 3)) :
    va_Run p l e R s m args below meth c H locs cells slots 0 0 (F0 m pc real ((as.reverse.map (tv w.1)) ++ rest)) rest (mQ w post (as.map (tv w.1)).toArray) w.2.2.2.2.1 := by
  obtain ⟨hy, hds, g1, g2⟩ := hlk
  have hmo := C0.2.2.2.2.2.1 y hy
  have hpre := fun U hU hW => sn_pre (as := as) C0 hR U hU hW
  obtain ⟨⟨hx, hb, hml, hown, hts⟩, hK, hE, hG, -, -, hf1, hf2⟩ := id C0
  refine va_runSN (bytes := (mth y).2.1) (maxL := (mth y).2.2.1) (ret := (mth y).2.2.2.1) (n := n) (index := i) (As := as.map (tv w.1)) ⟨hx, hb, hml, hown, hts⟩ hM ⟨va_cnB (ws' := gtbl) n hts (good_ws hmo) rfl rfl rfl (hE.2.2.2.2.2.2.2.2 _ g1) (hts _ hmo.2.1) ⟨hmo.2.2.1.1, hmo.2.2.1.2, hds⟩ ⟨?_, ?_⟩, hts _ g2, trivial⟩ ⟨mPre_blind w h _, hpre⟩ rfl ?_ hsz ?_ ?_ hd ⟨hf.1, hf.2⟩
  · show d + 1 ≤ R.frames; exact hf1
  · have := hmo.2.2.2.1
    show 8 + ((mth y).2.2.1 + 11) + 41 * d ≤ R.locals
    omega
  · simp [hn]
  · simp
  · show 2 * 0 + _ ≤ 8; omega
theorem sn_runX {as : List mV} (C0 : Cx p R s m args c cc nL own lk w d) (hX0 : xOk) (hM : Met l yJ0_indexOf_0f7a4 wsX (rmD d) (va_Pc (as.map (tv w.1)) (mPre w h)) (mQ w post) 0 0 w.2.2.2.2.1) (hx0 : ∃ x, as = [.inr (.inr (.inr 21)), .inl x]) (ho : own = RX1) (hR : Rl w s h H locs) (hsz : real.size = nL) (hf : cells ≤ R.cells ∧ slots ≤ R.slots) (hrest : (rest.map fun v => v.category).sum ≤ 8) (hd : decode cc pc = .ok (.invokevirtual 44, 3)) :
    va_Run p l e R s m args below meth c H locs cells slots 0 0 (F0 m pc real ((as.reverse.map (tv w.1)) ++ rest)) rest (mQ w post (as.map (tv w.1)).toArray) w.2.2.2.2.1 := by
  subst ho
  obtain ⟨x, rfl⟩ := hx0
  have hpre := fun U hU hW => sn_pre (as := [.inr (.inr (.inr 21)), .inl x]) C0 hR U hU hW
  obtain ⟨⟨hx, hb, hml, hown, hts⟩, hK, hE, hG, -, -, hf1, hf2⟩ := id C0
  obtain ⟨g0, g1, g2, g3, g4⟩ := hX0
  refine va_runV (C := "java/lang/String") (bytes := cJ0_indexOf_0f7a4) (maxL := 2) (ret := some .int) (n := 1) (index := 44) (b := w.1 (.inr 21)) (As := [.int x]) ⟨hx, hb, hml, hown, hts⟩ hM (cwV (ws' := gtbl) 1 hts (good_app (a := [.methodLink RX1 44 yJ0_indexOf_0f7a4, .instanceMethod yJ0_indexOf_0f7a4, .selects "java/lang/String" yJ0_indexOf_0f7a4 yJ0_indexOf_0f7a4, .initialized "java/lang/String"]) ?_ (fun q hq => ⟨g0 q hq, gtbl_good (g0 q hq)⟩)) rfl rfl rfl ⟨rfl, by decide +kernel, by decide +kernel, by decide +kernel⟩ ⟨?_, ?_⟩) ⟨mPre_blind w h _, vk_recv (i := 0) hE.2.2.2.1 (by decide) hR.2.2.1, hpre⟩ rfl rfl hsz rfl ?_ hd ⟨hf.1, hf.2⟩
  · intro q hq
    simp only [List.mem_cons, List.not_mem_nil, or_false] at hq
    rcases hq with rfl | rfl | rfl | rfl
    · exact g1
    · exact g2
    · exact g3
    · exact g4
  · show d + 1 ≤ R.frames; exact hf1
  · show 8 + (2 + 11) + 41 * d ≤ R.locals
    omega
  · show 2 * 0 + _ ≤ 8; omega
theorem cat_cw {ad : mRef → Nat} : ∀ st : List mV, ((st.map (tv ad)).map fun v => v.category).sum = cw st
  | [] => rfl
  | .inr (.inl x) :: s => by
    have := cat_cw (ad := ad) s
    simp only [List.map_cons, List.sum_cons, this, cw]
    exact Nat.add_comm _ _
  | .inl x :: s => by
    have := cat_cw (ad := ad) s
    simp only [List.map_cons, List.sum_cons, this, cw]
    exact Nat.add_comm _ _
  | .inr (.inr x) :: s => by
    have := cat_cw (ad := ad) s
    simp only [List.map_cons, List.sum_cons, this, cw]
    exact Nat.add_comm _ _
/-- a call, whichever -/
theorem sn_call {ins : Instr} {i kd y n : Nat} {st : List mV} (C0 : Cx p R s m args c cc nL own lk w d) (hMS : MSound l w d M) (hXS : XSound l w d M) (hX0 : xOk) (hlk : lnkOk own i kd y n) (hkd : (kd = 0 ∧ ins = .invokevirtual i) ∨ (kd = 1 ∧ ins = .invokestatic i) ∨ (kd = 2 ∧ ins = .invokestatic i) ∨ (kd = 4 ∧ ins = .invokevirtual i)) (hn : n ≤ st.length ∧ (st.length ≤ n + 4 ∨ cw (st.drop n) ≤ 8)) (hR : Rl w s h H locs) (hsz : real.size = nL) (hf : cells ≤ R.cells ∧ slots ≤ R.slots) (hd : decode cc pc = .ok (ins, 3))
    (hc : M y (st.take n).reverse h post)
    (kk : ∀ (v : Option mV) (h' : mH) (H1 : Heap) (locs1 : List Loc), post v h' → Rl w s h' H1 locs1 → W p l e R s m args below meth c H1 locs1 cells slots Q (F0 m (pc + 3) real ((v.toList ++ st.drop n).map (tv w.1)))) : W p l e R s m args below meth c H locs cells slots Q (F0 m pc real (st.map (tv w.1))) := by
  have hln : (st.take n).reverse.length = n := by simp; omega
  have e1 : st.map (tv w.1) = ((st.take n).reverse.reverse.map (tv w.1)) ++ (st.drop n).map (tv w.1) := by
    rw [List.reverse_reverse, ← List.map_append, List.take_append_drop]
  have hrest : (((st.drop n).map (tv w.1)).map fun v => v.category).sum ≤ 8 := by
    rcases hn.2 with hn2 | hn2
    · have := cat_sum (ad := w.1) (st.drop n)
      simp only [List.length_drop] at this
      omega
    · rw [cat_cw]
      exact hn2
  have key : va_Run p l e R s m args below meth c H locs cells slots 0 0 (F0 m pc real (((st.take n).reverse.reverse.map (tv w.1)) ++ (st.drop n).map (tv w.1))) ((st.drop n).map (tv w.1)) (mQ w post ((st.take n).reverse.map (tv w.1)).toArray) w.2.2.2.2.1 := by
    rcases hkd with ⟨rfl, rfl⟩ | ⟨rfl, rfl⟩ | ⟨rfl, rfl⟩ | ⟨rfl, rfl⟩
    · obtain ⟨h1, h2⟩ := hMS y _ h post hc hlk.1
      exact sn_runV C0 h1 h2 hlk hln hR hsz hf hrest hd
    · exact sn_runS C0 (hMS y _ h post hc hlk.1).1 hlk hln hR hsz hf hrest hd
    · exact sn_runN C0 (hMS y _ h post hc hlk.1).1 hlk hln hR hsz hf hrest hd
    · obtain ⟨ho, rfl, rfl, rfl⟩ := hlk
      obtain ⟨h1, h2⟩ := hXS _ h post hc
      exact sn_runX C0 hX0 h1 h2 ho hR hsz hf hrest hd
  rw [e1]
  refine call_g key hR.2.2.1 (fun v h' H1 locs1 hp hR1 => ?_)
  have e2 : (v.map (tv w.1)).toList ++ (st.drop n).map (tv w.1) = (v.toList ++ st.drop n).map (tv w.1) := by
    cases v <;> simp
  rw [e2]
  exact kk v h' H1 locs1 hp hR1
end CL
