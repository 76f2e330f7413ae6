/-! ===== one instruction, a block, a method: the small semantics is the machine's ===== -/
def rtOk (ret : Option FieldType) (i : Instr) (v : Option mV) : Prop :=
  (i = .ireturn ∧ ∃ x, v = some (.inl x) ∧ (ret = some .int ∨ ret = some .boolean ∧ bz x)) ∨ (i = .lreturn ∧ (∃ x, v = some (.inr (.inl x))) ∧ ret = some .long) ∨ (i = .return_ ∧ v = none ∧ ret = none)
section ON
variable {p : Program} {l : Launch} {e : Env} {R : Room} {s : State} {m : MethodId} {args : Array Value} {below : List Frame} {meth : Method} {c : Code} {cells slots : Nat} {Q : State → Prop} {cc : ByteArray} {nL d : Nat} {own : String} {lk : mLk} {w : mW} {post : mP} {M : mK} {ret : Option FieldType} {code : List mB}
/-- the machine stands at pc with this state of the small semantics -/
abbrev mWp (p : Program) (l : Launch) (e : Env) (R : Room) (s : State) (m : MethodId) (args : Array Value) (below : List Frame) (meth : Method) (c : Code) (cells slots : Nat) (Q : State → Prop) (nL : Nat) (w : mW) (pc : Nat) : mC := fun ls st h =>
  ∀ (H : Heap) (locs : List Loc) (real : Array Slot), LR w.1 nL real ls → Rl w s h H locs → W p l e R s m args below meth c H locs cells slots Q (F0 m pc real (st.map (tv w.1)))
theorem brc_cases {k : ClassFile.Cond} {x y : Int32} {A B : Prop} (h : brc k x y A B) (f : A → Q s) (g : B → Q s) : Q s := by
  cases k <;> (obtain ⟨h1, h2⟩ := h)
  · by_cases q : x = y
    · exact f (h1 q)
    · exact g (h2 q)
  · by_cases q : x = y
    · exact g (h2 q)
    · exact f (h1 q)
  · by_cases q : x < y
    · exact f (h1 q)
    · exact g (h2 q)
  · by_cases q : y ≤ x
    · exact f (h1 q)
    · exact g (h2 q)
  · by_cases q : y < x
    · exact f (h1 q)
    · exact g (h2 q)
  · by_cases q : x ≤ y
    · exact f (h1 q)
    · exact g (h2 q)
theorem sn_if {H : Heap} {locs : List Loc} {pc tgt : Nat} {real : Array Slot} {rest : List Value} {k : ClassFile.Cond} {o : Int} {x : Int32} {A B : Prop} (hx : p.tables.exec = Jvm.exec) (hb : c.code = cc) (hd : decode cc pc = .ok (.ifCond k o, 3)) (ht : (pc : Int) + o = (tgt : Int)) (h : brc k x 0 A B)
    (f : A → W p l e R s m args below meth c H locs cells slots Q (F0 m tgt real rest)) (g : B → W p l e R s m args below meth c H locs cells slots Q (F0 m (pc + 3) real rest)) : W p l e R s m args below meth c H locs cells slots Q (F0 m pc real (.int x :: rest)) := by
  cases k
  · exact lv_if_eq hx hb hd ht (fun q => f (h.1 q)) (fun q => g (h.2 q))
  · exact lv_if_ne hx hb hd ht (fun q => f (h.1 q)) (fun q => g (h.2 q))
  · exact lv_if_lt hx hb hd ht (fun q => f (h.1 q)) (fun q => g (h.2 q))
  · exact lv_if_ge hx hb hd ht (fun q => f (h.1 q)) (fun q => g (h.2 q))
  · exact lv_if_gt hx hb hd ht (fun q => f (h.1 q)) (fun q => g (h.2 q))
  · exact lv_if_le hx hb hd ht (fun q => f (h.1 q)) (fun q => g (h.2 q))
theorem sn_icmp {H : Heap} {locs : List Loc} {pc tgt : Nat} {real : Array Slot} {rest : List Value} {k : ClassFile.Cond} {o : Int} {x y : Int32} {A B : Prop} (hx : p.tables.exec = Jvm.exec) (hb : c.code = cc) (hd : decode cc pc = .ok (.if_icmp k o, 3)) (ht : (pc : Int) + o = (tgt : Int)) (h : brc k x y A B)
    (f : A → W p l e R s m args below meth c H locs cells slots Q (F0 m tgt real rest)) (g : B → W p l e R s m args below meth c H locs cells slots Q (F0 m (pc + 3) real rest)) : W p l e R s m args below meth c H locs cells slots Q (F0 m pc real (.int y :: .int x :: rest)) := by
  cases k
  · exact lv_icmp_eq hx hb hd ht (fun q => f (h.1 q)) (fun q => g (h.2 q))
  · exact lv_icmp_ne hx hb hd ht (fun q => f (h.1 q)) (fun q => g (h.2 q))
  · exact lv_icmp_lt hx hb hd ht (fun q => f (h.1 q)) (fun q => g (h.2 q))
  · exact lv_icmp_ge hx hb hd ht (fun q => f (h.1 q)) (fun q => g (h.2 q))
  · exact lv_icmp_gt hx hb hd ht (fun q => f (h.1 q)) (fun q => g (h.2 q))
  · exact lv_icmp_le hx hb hd ht (fun q => f (h.1 q)) (fun q => g (h.2 q))
theorem sn_tab {H : Heap} {locs : List Loc} {pc n : Nat} {real : Array Slot} {rest : List Value} {dd lo hi : Int} {os : Array Int} {k : Nat} {ks : List Nat} {x : Int32} {P : Nat → Prop} (hx : p.tables.exec = Jvm.exec) (hb : c.code = cc) (hd : decode cc pc = .ok (.tableswitch dd lo hi os, n))
    (h1 : okT code pc dd k = true) (h2 : okTs code pc os.toList ks = true) (h3 : hi = lo + (ks.length : Int) - 1) (h4 : -2147483648 ≤ lo) (h5 : hi ≤ 2147483647) (h : swt x P (P k) lo ks)
    (f : ∀ j q, P j → spc code j = some q → W p l e R s m args below meth c H locs cells slots Q (F0 m q real rest)) : W p l e R s m args below meth c H locs cells slots Q (F0 m pc real (.int x :: rest)) := by
  have hi0 : ∀ i : Nat, i < ks.length → (x = Int32.ofInt (lo + i) ↔ x.toInt = lo + i) := by
    intro i hi
    have e : (Int32.ofInt (lo + i)).toInt = lo + i := Int32.toInt_ofInt_of_le (by omega) (by omega)
    constructor
    · intro q; rw [q, e]
    · intro q; rw [← q, Int32.ofInt_toInt]
  by_cases hin : lo ≤ x.toInt ∧ x.toInt ≤ hi
  · obtain ⟨j, hj⟩ : ∃ j : Nat, x.toInt = lo + j := ⟨(x.toInt - lo).toNat, by omega⟩
    have hjl : j < ks.length := by omega
    obtain ⟨kj, e1, hP⟩ := swt_in ks lo j h hjl (fun i hi q => by have := (hi0 i (by omega)).mp q; omega) ((hi0 j hjl).mpr hj)
    obtain ⟨o, e2, e3⟩ := (okTs_at _ _ h2).2 j kj e1
    obtain ⟨q, e4, e5⟩ := okT_spc e3
    refine lv_tableIn hx hb hd (by omega) (by omega) (off := o) ?_ e5 (f kj q hP e4)
    rw [show (x.toInt - lo).toNat = j by omega]
    rw [← Array.getElem?_toList]
    exact e2
  · obtain ⟨q, e4, e5⟩ := okT_spc h1
    refine lv_tableOut hx hb hd (by omega) e5 (f k q (swt_out ks lo h (fun i hi z => ?_)) e4)
    have := (hi0 i hi).mp z
    omega
theorem okX_v {i n y k rk pc kd : Nat} (h : okX lk own nL ret code (pc, .invokevirtual i, n, [kd, y, k, rk]) = true) : (kd = 0 ∨ kd = 4) ∧ (i, kd, y, k) ∈ lk.2.1 := by
  match kd, h with
  | 0, h => exact ⟨Or.inl rfl, of_decide_eq_true h⟩
  | 1, h => cases h
  | 2, h => cases h
  | 3, h => cases h
  | 4, h => exact ⟨Or.inr rfl, of_decide_eq_true h⟩
  | k + 5, h => cases h
theorem okX_s {i n y k rk pc kd : Nat} (h : okX lk own nL ret code (pc, .invokestatic i, n, [kd, y, k, rk]) = true) : (kd = 1 ∨ kd = 2) ∧ (i, kd, y, k) ∈ lk.2.1 := by
  match kd, h with
  | 0, h => cases h
  | 1, h => exact ⟨Or.inl rfl, of_decide_eq_true h⟩
  | 2, h => exact ⟨Or.inr rfl, of_decide_eq_true h⟩
  | 3, h => cases h
  | 4, h => cases h
  | 5, h => cases h
  | 6, h => cases h
  | 7, h => cases h
  | 8, h => cases h
  | 9, h => cases h
  | k + 10, h => cases h
/-- what comes behind a call -/
theorem sn_cal {ins : Instr} {H : Heap} {locs : List Loc} {pc i : Nat} {t : List Nat} {nx : mC} {ls : mL} {st : List mV} {h : mH} {real : Array Slot} (C0 : Cx p R s m args c cc nL own lk w d) (hMS : MSound l w d M) (hXS : XSound l w d M) (hX0 : xOk) (hf : cells ≤ R.cells ∧ slots ≤ R.slots) (hi : ins = .invokevirtual i ∨ ins = .invokestatic i)
    (hd : decode cc pc = .ok (ins, 3)) (hok : okX lk own nL ret code (pc, ins, 3, t) = true) (hl : LR w.1 nL real ls) (hR : Rl w s h H locs)
    (hnx : ∀ (ls : mL) (st : List mV) (h : mH), nx ls st h → mWp p l e R s m args below meth c cells slots Q nL w (pc + 3) ls st h)
    (H0 : cal M t nx ls st h) : W p l e R s m args below meth c H locs cells slots Q (F0 m pc real (st.map (tv w.1))) := by
  have hG := C0.2.2.2.1
  have key : ∀ (kd y k rk : Nat), t = [kd, y, k, rk] → lnkOk own i kd y k ∧ ((kd = 0 ∧ ins = .invokevirtual i) ∨ (kd = 1 ∧ ins = .invokestatic i) ∨ (kd = 2 ∧ ins = .invokestatic i) ∨ (kd = 4 ∧ ins = .invokevirtual i)) := by
    intro kd y k rk ht
    subst ht
    rcases hi with rfl | rfl
    · obtain ⟨h1, h2⟩ := okX_v hok
      exact ⟨hG.2.1 _ _ _ _ h2, h1.elim (fun q => Or.inl ⟨q, rfl⟩) (fun q => Or.inr (Or.inr (Or.inr ⟨q, rfl⟩)))⟩
    · obtain ⟨h1, h2⟩ := okX_s hok
      exact ⟨hG.2.1 _ _ _ _ h2, h1.elim (fun q => Or.inr (Or.inl ⟨q, rfl⟩)) (fun q => Or.inr (Or.inr (Or.inl ⟨q, rfl⟩)))⟩
  unfold cal at H0
  split at H0
  · rename_i kd y k
    obtain ⟨g1, g2⟩ := key _ _ _ _ rfl
    split at H0
    · rename_i hn
      refine sn_call C0 hMS hXS hX0 g1 g2 hn hR hl.2.1 hf hd H0 (fun v h' H1 locs1 hp hR1 => ?_)
      match v, hp with
      | none, hp => exact hnx _ _ _ hp H1 locs1 real hl hR1
    · exact H0.elim
  · rename_i kd y k
    obtain ⟨g1, g2⟩ := key _ _ _ _ rfl
    split at H0
    · rename_i hn
      refine sn_call C0 hMS hXS hX0 g1 g2 hn hR hl.2.1 hf hd H0 (fun v h' H1 locs1 hp hR1 => ?_)
      match v, hp with
      | some (.inl x), hp => exact hnx _ _ _ hp H1 locs1 real hl hR1
    · exact H0.elim
  · rename_i kd y k
    obtain ⟨g1, g2⟩ := key _ _ _ _ rfl
    split at H0
    · rename_i hn
      refine sn_call C0 hMS hXS hX0 g1 g2 hn hR hl.2.1 hf hd H0 (fun v h' H1 locs1 hp hR1 => ?_)
      match v, hp with
      | some (.inr (.inl x)), hp => exact hnx _ _ _ hp H1 locs1 real hl hR1
    · exact H0.elim
  · split at H0
    · obtain ⟨na, nd, h1, h2, h3, h4, h5, h6, h7, h8, h9⟩ := H0
      rcases hi with rfl | rfl
      · cases hok
      · rename_i s9
        have hrest := cat_sum (ad := w.1) s9
        exact sn_copy C0 hR hl.2.1 (of_decide_eq_true hok) h1 h2 h3 h4 h5 h6 h7 (by omega) hd (fun H1 locs1 hR1 => hnx _ _ _ h9 H1 locs1 real hl hR1)
    · exact H0.elim
  · exact H0.elim
set_option maxHeartbeats 4000000 in
theorem sn_1 {b pc n : Nat} {i : Instr} {t : List Nat} {L : Nat → mC} {nx : mC} (C0 : Cx p R s m args c cc nL own lk w d) (hMS : MSound l w d M) (hXS : XSound l w d M) (hX0 : xOk) (hf : cells ≤ R.cells ∧ slots ≤ R.slots)
    (hd : decode cc pc = .ok (i, n)) (hn : isTab i = true ∨ n = ilen i) (hok : okX lk own nL ret code (pc, i, n, t) = true)
    (hret : ∀ (v : Option mV) (h' : mH) (H : Heap) (locs : List Loc) (real : Array Slot) (pc : Nat) (i : Instr), post v h' → Rl w s h' H locs → decode cc pc = .ok (i, 1) → rtOk ret i v → W p l e R s m args below meth c H locs cells slots Q (F0 m pc real (v.toList.map (tv w.1))))
    (hL : ∀ (k q : Nat) (ls : mL) (st : List mV) (h : mH), L k ls st h → spc code k = some q → mWp p l e R s m args below meth c cells slots Q nL w q ls st h)
    (hnx : isEnd i = false → isIf i = false → ∀ (ls : mL) (st : List mV) (h : mH), nx ls st h → mWp p l e R s m args below meth c cells slots Q nL w (pc + n) ls st h)
    (hif : isIf i = true → spc code (b + 1) = some (pc + n))
    {ls : mL} {st : List mV} {h : mH} (H0 : den1 M w.2.2.2.2.2.1 post L b (pc, i, n, t) nx ls st h) : mWp p l e R s m args below meth c cells slots Q nL w pc ls st h := by
  intro H locs real hl hR
  obtain ⟨⟨hx, hb, hml, hown, hts⟩, hK, hE, hG, -⟩ := id C0
  unfold den1 at H0
  dsimp only at H0
  split at H0
  · -- ireturn
    have hn : n = 1 := hn.resolve_left (by decide)
    subst hn
    split at H0
    · split at H0
      · exact hret _ _ _ _ _ _ _ H0 hR hd (Or.inl ⟨rfl, _, rfl, Or.inl (of_decide_eq_true hok)⟩)
      · rename_i hne
        refine hret _ _ _ _ _ _ _ H0.2 hR hd (Or.inl ⟨rfl, _, rfl, Or.inr ⟨?_, H0.1⟩⟩)
        match t, hok, hne with
        | [], _, hne => exact absurd rfl hne
        | _ :: _, hok, _ => exact of_decide_eq_true hok
    · exact H0.elim
  · -- lreturn
    have hn : n = 1 := hn.resolve_left (by decide)
    subst hn
    split at H0
    · exact hret _ _ _ _ _ _ _ H0 hR hd (Or.inr (Or.inl ⟨rfl, ⟨_, rfl⟩, of_decide_eq_true hok⟩))
    · exact H0.elim
  · -- return
    have hn : n = 1 := hn.resolve_left (by decide)
    subst hn
    split at H0
    · exact hret _ _ _ _ _ _ _ H0 hR hd (Or.inr (Or.inr ⟨rfl, rfl, of_decide_eq_true hok⟩))
    · exact H0.elim
  · -- goto
    have hn : n = 3 := hn.resolve_left (by simp [isTab])
    subst hn
    split at H0
    · obtain ⟨q, e1, e2⟩ := okT_spc hok
      exact lv_goto hx hb hd e2 (hL _ q _ _ _ H0 e1 H locs real hl hR)
    · exact H0.elim
  · -- ifCond
    have hn : n = 3 := hn.resolve_left (by simp [isTab])
    subst hn
    split at H0
    · obtain ⟨q, e1, e2⟩ := okT_spc hok
      exact sn_if hx hb hd e2 H0 (fun z => hL _ q _ _ _ z e1 H locs real hl hR) (fun z => hL _ _ _ _ _ z (hif rfl) H locs real hl hR)
    · exact H0.elim
  · -- if_icmp
    have hn : n = 3 := hn.resolve_left (by simp [isTab])
    subst hn
    split at H0
    · obtain ⟨q, e1, e2⟩ := okT_spc hok
      exact sn_icmp hx hb hd e2 H0 (fun z => hL _ q _ _ _ z e1 H locs real hl hR) (fun z => hL _ _ _ _ _ z (hif rfl) H locs real hl hR)
    · exact H0.elim
  · -- tableswitch
    split at H0
    · simp only [okX, Bool.and_eq_true, decide_eq_true_eq] at hok
      obtain ⟨⟨⟨⟨⟨g1, g2⟩, g3⟩, g4⟩, g5⟩, g6⟩ := hok
      exact sn_tab hx hb hd g1 g2 g3 g4 g5 H0 (fun j q z e1 => hL j q _ _ _ z e1 H locs real hl hR)
    · exact H0.elim
  · -- getfield
    have hn : n = 3 := hn.resolve_left (by simp [isTab])
    subst hn
    split at H0
    · split at H0
      · rename_i hr
        split at H0
        · rename_i r' ho
          exact sn_get C0 hR (of_decide_eq_true hok) hr ho hd (hnx rfl rfl _ _ _ H0 H locs real hl hR)
        · rename_i ho
          exact sn_get C0 hR (of_decide_eq_true hok) hr ho hd (hnx rfl rfl _ _ _ H0 H locs real hl hR)
        · exact H0.elim
      · exact H0.elim
    · exact H0.elim
  · -- putfield
    have hn : n = 3 := hn.resolve_left (by simp [isTab])
    subst hn
    split at H0
    · split at H0
      · rename_i hr
        split at H0
        · rename_i ho
          exact sn_put C0 hR (of_decide_eq_true hok) (Or.inr ⟨rfl, rfl⟩) rfl rfl hr ho hd (fun H1 locs1 hR1 => hnx rfl rfl _ _ _ H0 H1 locs1 real hl hR1)
        · exact H0.elim
      · exact H0.elim
    · split at H0
      · rename_i hr
        split at H0
        · rename_i ho
          have hz := H0.1
          refine sn_put C0 hR (of_decide_eq_true hok) (Or.inl ⟨rfl, rfl⟩) ?_ ?_ hr ho hd (fun H1 locs1 hR1 => hnx rfl rfl _ _ _ H0.2 H1 locs1 real hl hR1)
          · rcases hz with e | e <;> (rw [e]; rfl)
          · rcases hz with e | e <;> (rw [e]; rfl)
        · exact H0.elim
      · exact H0.elim
    · exact H0.elim
  · -- iaload
    have hn : n = 1 := hn.resolve_left (by decide)
    subst hn
    split at H0
    · split at H0
      · rename_i hr
        exact sn_ald C0 hR hr H0.1 hd (hnx rfl rfl _ _ _ H0.2 H locs real hl hR)
      · exact H0.elim
    · exact H0.elim
  · -- iastore
    have hn : n = 1 := hn.resolve_left (by decide)
    subst hn
    split at H0
    · split at H0
      · rename_i hr
        exact sn_ast C0 hR hr H0.1 hd (fun H1 locs1 hR1 => hnx rfl rfl _ _ _ H0.2 H1 locs1 real hl hR1)
      · exact H0.elim
    · exact H0.elim
  · -- arraylength
    have hn : n = 1 := hn.resolve_left (by decide)
    subst hn
    split at H0
    · split at H0
      · rename_i hr
        exact sn_len C0 hR hr hd (hnx rfl rfl _ _ _ H0 H locs real hl hR)
      · exact H0.elim
    · exact H0.elim
  · -- idiv
    have hn : n = 1 := hn.resolve_left (by decide)
    subst hn
    split at H0
    · exact lv_idiv hx hb hd H0.1 (hnx rfl rfl _ _ _ H0.2 H locs real hl hR)
    · exact H0.elim
  · -- irem
    have hn : n = 1 := hn.resolve_left (by decide)
    subst hn
    split at H0
    · exact lv_irem hx hb hd H0.1 (hnx rfl rfl _ _ _ H0.2 H locs real hl hR)
    · exact H0.elim
  · have hn : n = 3 := hn.resolve_left (by simp [isTab])
    subst hn
    exact sn_cal C0 hMS hXS hX0 hf (Or.inl rfl) hd hok hl hR (hnx rfl rfl) H0
  · have hn : n = 3 := hn.resolve_left (by simp [isTab])
    subst hn
    exact sn_cal C0 hMS hXS hX0 hf (Or.inr rfl) hd hok hl hR (hnx rfl rfl) H0
  · rename_i n1 n2 n3 n4 n5 n6 n7 n8 n9 n10 n11 n12 n13 n14 n15 n16
    have hie : isEnd i = false := by
      unfold isEnd
      split <;> first | rfl | exact absurd rfl (by assumption) | exact absurd rfl (n7 _ _ _ _) | exact absurd rfl (n4 _)
    have hii : isIf i = false := by
      unfold isIf
      split <;> first | rfl | exact absurd rfl (n5 _ _) | exact absurd rfl (n6 _ _)
    have hit : isTab i = false := by
      unfold isTab
      split <;> first | rfl | exact absurd rfl (n7 _ _ _ _)
    have hn : n = ilen i := hn.resolve_left (by rw [hit]; decide)
    subst hn
    split at H0
    · rename_i q hq
      by_cases hs1 : ∃ j, i = .getstatic j
      · obtain ⟨j, rfl⟩ := hs1
        obtain ⟨ho, rfl⟩ := of_decide_eq_true hok
        subst ho
        cases hq
        exact va_getsN hx hb hE.1 hR.2.2.1 hown (va_Nw.use rfl (hE.2.2.2.2.2.2.2.2 (.fieldLinkNest "TornLayers$Tape" 50 "TornLayers" "NUMBERS_OF" "[I" "TornLayers") (by decide +kernel))) (fun _ h9 => h9) hd (hnx hie hii _ _ _ H0 H locs real hl hR)
      · by_cases hs2 : ∃ j, i = .ldc j ∧ t = [1]
        · obtain ⟨j, rfl, rfl⟩ := hs2
          obtain ⟨ho, rfl⟩ := of_decide_eq_true hok
          subst ho
          cases hq
          exact va_ldcS hx hb hown hE.2.2.1 hd (hnx hie hii _ _ _ H0 H locs real hl hR)
        · exact sn_pop (lk := lk) (ret := ret) (code := code) hx hb rfl hown (fun j v z => hts _ (hG.2.2.1 j v z)) (fun j v z => hts _ (hG.2.2.2.1 j v z)) hq hd hok (fun j z => hs1 ⟨j, z⟩) hs2 hl (fun real' hl' => hnx hie hii _ _ _ H0 H locs real' hl' hR)
    · exact H0.elim
theorem isIf_end {i : Instr} (h : isIf i = true) : isEnd i = false := by
  unfold isIf at h
  split at h
  · rfl
  · rfl
  · cases h
/-- a block from one of its instructions on -/
theorem sn_B {b : Nat} {L : Nat → mC} (C0 : Cx p R s m args c cc nL own lk w d) (hMS : MSound l w d M) (hXS : XSound l w d M) (hX0 : xOk) (hf : cells ≤ R.cells ∧ slots ≤ R.slots)
    (hret : ∀ (v : Option mV) (h' : mH) (H : Heap) (locs : List Loc) (real : Array Slot) (pc : Nat) (i : Instr), post v h' → Rl w s h' H locs → decode cc pc = .ok (i, 1) → rtOk ret i v → W p l e R s m args below meth c H locs cells slots Q (F0 m pc real (v.toList.map (tv w.1))))
    (hL : ∀ (k q : Nat) (ls : mL) (st : List mV) (h : mH), L k ls st h → spc code k = some q → mWp p l e R s m args below meth c cells slots Q nL w q ls st h) :
    ∀ (r : List mE) (pc : Nat), okB lk own cc nL ret code b r = true → (match r with
      | [] => spc code (b + 1) = some pc
      | it :: _ => it.1 = pc) → ∀ (ls : mL) (st : List mV) (h : mH), denB M w.2.2.2.2.2.1 post L b r ls st h → mWp p l e R s m args below meth c cells slots Q nL w pc ls st h
  | [], pc, _, hpc, ls, st, h, H0 => hL (b + 1) pc ls st h H0 hpc
  | (pc0, i, n, t) :: r, pc, hok, hpc, ls, st, h, H0 => by
    have hpc : pc0 = pc := hpc
    subst hpc
    have H0 : den1 M w.2.2.2.2.2.1 post L b (pc0, i, n, t) (denB M w.2.2.2.2.2.1 post L b r) ls st h := H0
    simp only [okB, Bool.and_eq_true, Bool.or_eq_true, decide_eq_true_eq] at hok
    obtain ⟨h1 | ⟨h1, h2⟩, h3⟩ := hok
    · subst h1
      exact H0.elim
    · simp only [okI, Bool.and_eq_true, Bool.or_eq_true, decide_eq_true_eq] at h1
      obtain ⟨⟨g1, g2⟩, g3⟩ := h1
      refine sn_1 C0 hMS hXS hX0 hf g1 g2 g3 hret hL (fun he hi ls st h H1 => ?_) (fun hi => ?_) H0
      · refine sn_B C0 hMS hXS hX0 hf hret hL r (pc0 + n) h3 ?_ ls st h H1
        rcases h2 with h2 | h2
        · rw [he] at h2; cases h2
        · match r, h2 with
          | [], h2 => exact of_decide_eq_true h2
          | it :: _, h2 =>
            simp only [Bool.and_eq_true, decide_eq_true_eq] at h2
            exact h2.1
      · rcases h2 with h2 | h2
        · rw [isIf_end hi] at h2; cases h2
        · match r, h2 with
          | [], h2 => exact of_decide_eq_true h2
          | it :: _, h2 =>
            simp only [Bool.and_eq_true, decide_eq_true_eq] at h2
            rw [hi] at h2
            exact absurd h2.2 (by decide)
/-- the machine does what EX says, from any block's begin on -/
theorem sn_EX (C0 : Cx p R s m args c cc nL own lk w d) (hMS : MSound l w d M) (hXS : XSound l w d M) (hX0 : xOk) (hf : cells ≤ R.cells ∧ slots ≤ R.slots) (hC : okC lk own cc nL ret code = true)
    (hret : ∀ (v : Option mV) (h' : mH) (H : Heap) (locs : List Loc) (real : Array Slot) (pc : Nat) (i : Instr), post v h' → Rl w s h' H locs → decode cc pc = .ok (i, 1) → rtOk ret i v → W p l e R s m args below meth c H locs cells slots Q (F0 m pc real (v.toList.map (tv w.1))))
    {b q : Nat} {ls : mL} {st : List mV} {h : mH} (H0 : EX M w.2.2.2.2.2.1 code post b ls st h) (hq : spc code b = some q) : mWp p l e R s m args below meth c cells slots Q nL w q ls st h := by
  refine H0 (fun b ls st h => ∀ q, spc code b = some q → mWp p l e R s m args below meth c cells slots Q nL w q ls st h) ?_ q hq
  intro b ls st h H1 q hq
  have hb : b < code.length := by
    apply Nat.lt_of_not_le
    intro hl
    have e : code.getD b (false, []) = (false, []) := by simp [List.getD_eq_getElem?_getD, hl]
    simp only [spc, blk, e] at hq
    cases hq
  have hm : (blk code b, b) ∈ code.zipIdx := by
    rw [List.mem_zipIdx_iff_getElem?]
    simp [blk, List.getD_eq_getElem?_getD, hb]
  have hok := List.all_eq_true.mp hC _ hm
  refine sn_B (L := fun b ls st h => ∀ q, spc code b = some q → mWp p l e R s m args below meth c cells slots Q nL w q ls st h) C0 hMS hXS hX0 hf hret (fun k q ls st h z e => z q e) (blk code b).2 q hok ?_ ls st h H1
  unfold spc at hq
  match (blk code b).2, hq with
  | [], hq => cases hq
  | it :: _, hq => exact Option.some.inj hq
end ON
/-! ===== the methods ===== -/
/-- method y is as its listing says -/
def yOk (y : Nat) : Prop := ∃ lk : mLk, lkG (mth y).2.2.2.2.1 lk ∧ okC lk (mth y).2.2.2.2.1 (mth y).2.1 (mth y).2.2.1 (mth y).2.2.2.1 (mth y).2.2.2.2.2.2 = true ∧ spc (mth y).2.2.2.2.2.2 0 = some 0
theorem lv_args_ent (ad : mRef → Nat) : ∀ (as : List mV) (k : Nat) (pre : mL), pre.length = k → ∀ (n i : Nat) (v : mV), k ≤ i → lcl (pre ++ ent as ++ List.replicate n none) i = some v → (i, tv ad v) ∈ lv_args k (as.map (tv ad))
  | [], k, pre, hk, n, i, v, hi, h => by
    have h1 := (lcl_cat ad h).1
    simp only [ent, List.append_nil, List.getD_eq_getElem?_getD] at h1
    rw [List.getElem?_append_right (by omega)] at h1
    by_cases hx : i - pre.length < n
    · simp [List.getElem?_replicate, hx] at h1
    · simp [List.getElem?_replicate, hx] at h1
  | .inl x :: as, k, pre, hk, n, i, v, hi, h => by
    by_cases hik : i = k
    · subst hik
      have h1 := (lcl_cat ad h).1
      simp only [ent, List.getD_eq_getElem?_getD, List.append_assoc] at h1
      rw [List.getElem?_append_right (by omega), hk] at h1
      simp at h1
      subst h1
      exact List.mem_cons_self
    · have := lv_args_ent ad as (k + 1) (pre ++ [some (.inl x)]) (by simp [hk]) n i v (by omega) (by simpa [ent] using h)
      exact List.mem_cons_of_mem _ this
  | .inr (.inr r) :: as, k, pre, hk, n, i, v, hi, h => by
    by_cases hik : i = k
    · subst hik
      have h1 := (lcl_cat ad h).1
      simp only [ent, List.getD_eq_getElem?_getD, List.append_assoc] at h1
      rw [List.getElem?_append_right (by omega), hk] at h1
      simp at h1
      subst h1
      exact List.mem_cons_self
    · have := lv_args_ent ad as (k + 1) (pre ++ [some (.inr (.inr r))]) (by simp [hk]) n i v (by omega) (by simpa [ent] using h)
      exact List.mem_cons_of_mem _ this
  | .inr (.inl x) :: as, k, pre, hk, n, i, v, hi, h => by
    by_cases hik : i = k
    · subst hik
      have h1 := (lcl_cat ad h).1
      simp only [ent, List.getD_eq_getElem?_getD, List.append_assoc] at h1
      rw [List.getElem?_append_right (by omega), hk] at h1
      simp at h1
      subst h1
      exact List.mem_cons_self
    · by_cases hik2 : i = k + 1
      · subst hik2
        have h1 := (lcl_cat ad h).1
        simp only [ent, List.getD_eq_getElem?_getD, List.append_assoc] at h1
        rw [List.getElem?_append_right (by omega), hk] at h1
        simp at h1
      · have := lv_args_ent ad as (k + 2) (pre ++ [some (.inr (.inl x)), none]) (by simp [hk]) n i v (by omega) (by simpa [ent] using h)
        exact List.mem_cons_of_mem _ this
theorem ent_len (ad : mRef → Nat) : ∀ as : List mV, (lg_sl (as.map (tv ad))).length = (ent as).length
  | [] => rfl
  | .inl x :: as => by
    have := ent_len ad as
    simp only [List.map_cons, tv, ent, List.length_cons, ← this]
    rfl
  | .inr (.inl x) :: as => by
    have := ent_len ad as
    simp only [List.map_cons, tv, ent, List.length_cons, ← this]
    rfl
  | .inr (.inr r) :: as => by
    have := ent_len ad as
    simp only [List.map_cons, tv, ent, List.length_cons, ← this]
    rfl
theorem LR_entry {ad : mRef → Nat} {as : List mV} {nL : Nat} (h : (ent as).length ≤ nL) : LR ad nL ((lg_sl (as.map (tv ad)) ++ List.replicate (nL - (lg_sl (as.map (tv ad))).length) Slot.unset).toArray) (ent as ++ List.replicate (nL - (ent as).length) none) := by
  have h0 := lv_entry (as.map (tv ad)) (n := nL) (by rw [ent_len]; exact h)
  refine ⟨by simp; omega, h0.1, h0.2.1, fun q hq => ?_⟩
  obtain ⟨v, hv, e⟩ := clm_mem.mp hq
  have := lv_args_ent ad as 0 [] rfl (nL - (ent as).length) q.1 v (Nat.zero_le _) (by simpa using hv)
  rw [show q = (q.1, tv ad v) by rw [← e]]
  exact h0.2.2 _ this
set_option maxHeartbeats 4000000 in
/-- every method that the small semantics goes through keeps its contract -/
theorem sn_K (l : Launch) (w : mW) (hcl : ∀ ci, ci < 5 → clsOk ci) (hmo : ∀ y, y < 195 → metOk y) (hyo : ∀ y, y < 195 → yOk y) (hX0 : xOk) (hXS : ∀ d, XSound l w d (Kd w.2.2.2.2.2.1 d)) : ∀ d, MSound l w d (Kd w.2.2.2.2.2.1 d)
  | 0 => fun y as h post H0 _ => H0.elim
  | d + 1 => fun y as h post H0 hy => by
    rcases H0 with ⟨rfl, -⟩ | ⟨-, hrc, hent, H1⟩
    · exact absurd hy (by decide)
    refine ⟨?_, hrc⟩
    obtain ⟨lk, hG, hC, hs0⟩ := hyo y hy
    have hm := hmo y hy
    refine Met.ofW (cc := (mth y).2.1) (maxL := (mth y).2.2.1) (ret := (mth y).2.2.2.1) hm.2.2.2.2.1 rfl ?_
    intro p e s m args below meth c s₁ B hml hv
    obtain ⟨rfl, hP, hK, hD, hSm, hE⟩ := hv
    have hx := B.exec
    have hb := B.bytes
    have hr := B.returns
    have hts := atoms_spec (ws := wsY y) B.pre
    have hown : s.vm.findClass (mth y).1.cls = some m.cls := findClass_of_methodNamed B.named
    rw [hm.2.2.2.2.2] at hown
    have hlocks := B.notSynchronized
    have C0 : Cx p (rmD (d + 1)) s m (as.map (tv w.1)).toArray c (mth y).2.1 (mth y).2.2.1 (mth y).2.2.2.2.1 lk w d := ⟨⟨hx, hb, hml, hown, fun q hq => hts q (List.mem_cons_of_mem _ hq)⟩, hK, hE, hG, hcl, hmo, Nat.le_refl _, Nat.le_refl _⟩
    rw [lg_entry_eq]
    refine sn_EX (cells := 0) (slots := 0) C0 (sn_K l w hcl hmo hyo hX0 hXS d) (hXS d) hX0 ⟨Nat.zero_le _, Nat.zero_le _⟩ hC ?_ H1 hs0 s.heap [] _ (LR_entry hent) ⟨hP, hD, va_S.rf, hSm⟩
    intro v h' H locs real pc i hp hR hd hrt
    have hq : ∀ t : State, t.heap = H → s.WarmedH t.vm → mQ w post (as.map (tv w.1)).toArray s (.returned (v.map (tv w.1))) t := fun t ht hW => ⟨⟨v, h', rfl, hp, by rw [ht]; exact hR.1, hR.2.1, hR.2.2.2⟩, hR.2.2.1.F ht⟩
    rcases hrt with ⟨rfl, x, rfl, hz⟩ | ⟨rfl, ⟨x, rfl⟩, hz⟩ | ⟨rfl, rfl, hz⟩
    · rcases hz with hz | ⟨hz, hbz⟩
      · exact W.iret hx hb (by rw [hr, hz]) hq hR.2.2.1.2.2 hd
      · exact W.zret (ty := .boolean) hx hb (by rw [hr, hz]) (by rcases hbz with e9 | e9 <;> (rw [e9]; rfl)) hq hR.2.2.1.2.2 hd
    · exact W.lret hx hb (by rw [hr, hz]) hq hR.2.2.1.2.2 hd
    · exact W.vret hx hb (by rw [hr, hz]) hq hR.2.2.1.2.2 hd
