/-! ===== the one call into the JDK's text: "wsdrgmf".indexOf ===== -/
def inQ (w : Cond) : Bool := decide (w ∈ lw_tbl) && goodWord w
theorem inQ_ok {w : Cond} (h : inQ w = true) : w ∈ gtbl := by
  simp only [inQ, Bool.and_eq_true, decide_eq_true_eq] at h
  exact gtbl_in h.1 h.2
theorem inQs_ok {ws : List Cond} (h : ws.all inQ = true) : ∀ w ∈ ws, w ∈ gtbl := fun w hw => inQ_ok (List.all_eq_true.mp h w hw)
abbrev pX (r : Int32) (h : mH) : mP := fun v h' => v = some (.inl r) ∧ h' = h
abbrev MXp (l : Launch) (w : mW) (d : Nat) (y : MethodName) (bytes : ByteArray) (mx : Nat) (ret : Option FieldType) (av : List Value) (h : mH) (post : mP) : Prop := Met l y (.code y bytes mx ret :: gtbl) (rmD d) (va_Pc av (mPre w h)) (mQ w post) 0 0 w.2.2.2.2.1
abbrev MX (l : Launch) (w : mW) (d : Nat) (y : MethodName) (bytes : ByteArray) (mx : Nat) (ret : Option FieldType) (av : List Value) (h : mH) (r : Int32) : Prop := Met l y (.code y bytes mx ret :: gtbl) (rmD d) (va_Pc av (mPre w h)) (mQ w (pX r h)) 0 0 w.2.2.2.2.1
section XS
variable {p : Program} {l : Launch} {e : Env} {R : Room} {s : State} {m : MethodId} {args : Array Value} {below : List Frame} {meth : Method} {c : Code} {H : Heap} {locs : List Loc} {cells slots : Nat} {Q : State → Prop} {cc : ByteArray} {pc nL d : Nat} {own : String} {w : mW} {real : Array Slot} {h : mH} {rest : List Value} {r : Int32} {y : MethodName} {bytes : ByteArray} {mx n i : Nat} {ret : Option FieldType} {As : List Value}
theorem mx_good (g : Cond.code y bytes mx ret ∈ gtbl) : GoodIn gtbl (.code y bytes mx ret :: gtbl) := by
  intro q hq
  rcases List.mem_cons.mp hq with rfl | hq
  · exact ⟨g, gtbl_good g⟩
  · exact ⟨hq, gtbl_good hq⟩
theorem mx_pre {av : List Value} (hK : va_K w.2.2.1 vwCl [(w.2.2.2.1, .int)] s) (hE : Ext w s s.heap) (hR : Rl w s h H locs) (U : State) (hU : U.heap = H) (hW : s.WarmedH U.vm) : va_Pc av (mPre w h) av.toArray U :=
  ⟨rfl, by rw [hU]; exact hR.1, va_K.moved hW.alike hK, hR.2.1, hR.2.2.2, hE.to hR.2.2.1 hU hW⟩
theorem mx_V (S : CallFix p m c cc nL s args gtbl own) (hK : va_K w.2.2.1 vwCl [(w.2.2.2.1, .int)] s) (hE : Ext w s s.heap) (hM : MX l w d y bytes mx ret (.ref (w.1 (.inr 21)) :: As) h r) (g : [Cond.methodLink own i y, .instanceMethod y, .selects "java/lang/String" y y, .initialized "java/lang/String", .code y bytes mx ret].all inQ = true) (hy : y.cls = "java/lang/String" ∧ (parseMethodDescriptor y.desc).map (fun d => d.parameters.length) = some n) (hmx : mx ≤ 22) (hn : As.length = n) (hf : d + 1 ≤ R.frames ∧ 41 * (d + 1) ≤ R.locals) (hc : cells ≤ R.cells ∧ slots ≤ R.slots) (hR : Rl w s h H locs) (hsz : real.size = nL) (hrest : (rest.map fun v => v.category).sum ≤ 8) (hd : decode cc pc = .ok (.invokevirtual i, 3))
    (kk : ∀ (H1 : Heap) (locs1 : List Loc), Rl w s h H1 locs1 → W p l e R s m args below meth c H1 locs1 cells slots Q (F0 m (pc + 3) real (.int r :: rest))) : W p l e R s m args below meth c H locs cells slots Q (F0 m pc real (As.reverse ++ .ref (w.1 (.inr 21)) :: rest)) := by
  have g' := inQs_ok g
  have key : va_Run p l e R s m args below meth c H locs cells slots 0 0 (F0 m pc real (As.reverse ++ .ref (w.1 (.inr 21)) :: rest)) rest (mQ w (pX r h) (Value.ref (w.1 (.inr 21)) :: As).toArray) w.2.2.2.2.1 := by
    refine va_runV (C := "java/lang/String") (bytes := bytes) (maxL := mx) (ret := ret) (n := n) (index := i) (b := w.1 (.inr 21)) (As := As) S hM (cwV (ws' := gtbl) n S.2.2.2.2 (good_app (a := [.methodLink own i y, .instanceMethod y, .selects "java/lang/String" y y, .initialized "java/lang/String"]) (fun q hq => g' q ?_) (mx_good (g' _ ?_))) rfl rfl rfl ⟨hy.1, by rw [hy.1]; decide +kernel, by rw [hy.1]; decide +kernel, hy.2⟩ ⟨hf.1, ?_⟩) ⟨mPre_blind w h _, vk_recv (i := 0) hE.2.2.2.1 (by decide) hR.2.2.1, mx_pre hK hE hR⟩ rfl hn hsz rfl ?_ hd ⟨hc.1, hc.2⟩
    · simp only [List.mem_cons, List.not_mem_nil, or_false] at hq ⊢
      rcases hq with rfl | rfl | rfl | rfl <;> simp
    · simp
    · show 8 + (mx + 11) + 41 * d ≤ R.locals
      omega
    · show 2 * 0 + _ ≤ 8; omega
  refine call_g key hR.2.2.1 (fun v h' H1 locs1 hp hR1 => ?_)
  obtain ⟨rfl, rfl⟩ := hp
  exact kk H1 locs1 hR1
theorem mx_S (S : CallFix p m c cc nL s args gtbl own) (hK : va_K w.2.2.1 vwCl [(w.2.2.2.1, .int)] s) (hE : Ext w s s.heap) (hM : MX l w d y bytes mx ret As h r) (g : [Cond.methodLink own i y, .static y, .initialized y.cls, .code y bytes mx ret].all inQ = true) (hy : y.cls = "java/lang/StringLatin1" ∧ (parseMethodDescriptor y.desc).map (fun d => d.parameters.length) = some n) (hmx : mx ≤ 22) (hn : As.length = n) (hf : d + 1 ≤ R.frames ∧ 41 * (d + 1) ≤ R.locals) (hc : cells ≤ R.cells ∧ slots ≤ R.slots) (hR : Rl w s h H locs) (hsz : real.size = nL) (hrest : (rest.map fun v => v.category).sum ≤ 8) (hd : decode cc pc = .ok (.invokestatic i, 3))
    (kk : ∀ (H1 : Heap) (locs1 : List Loc), Rl w s h H1 locs1 → W p l e R s m args below meth c H1 locs1 cells slots Q (F0 m (pc + 3) real (.int r :: rest))) : W p l e R s m args below meth c H locs cells slots Q (F0 m pc real (As.reverse ++ rest)) := by
  have g' := inQs_ok g
  have key : va_Run p l e R s m args below meth c H locs cells slots 0 0 (F0 m pc real (As.reverse ++ rest)) rest (mQ w (pX r h) As.toArray) w.2.2.2.2.1 := by
    refine va_runS (bytes := bytes) (maxL := mx) (ret := ret) (n := n) (index := i) (As := As) S hM (va_cwS (ws' := gtbl) n S.2.2.2.2 (good_app (a := [.methodLink own i y, .static y, .initialized y.cls]) (fun q hq => g' q ?_) (mx_good (g' _ ?_))) rfl rfl rfl ⟨by rw [hy.1]; decide +kernel, by rw [hy.1]; decide +kernel, hy.2⟩ ⟨hf.1, ?_⟩) ⟨mPre_blind w h _, mx_pre hK hE hR⟩ rfl hn hsz rfl ?_ hd ⟨hc.1, hc.2⟩
    · simp only [List.mem_cons, List.not_mem_nil, or_false] at hq ⊢
      rcases hq with rfl | rfl | rfl <;> simp
    · simp
    · show 8 + (mx + 11) + 41 * d ≤ R.locals
      omega
    · show 2 * 0 + _ ≤ 8; omega
  refine call_g key hR.2.2.1 (fun v h' H1 locs1 hp hR1 => ?_)
  obtain ⟨rfl, rfl⟩ := hp
  exact kk H1 locs1 hR1
end XS
/-- a method out of a walk of its body -/
theorem mx_ofp {post : mP} {l : Launch} {w : mW} {d mx : Nat} {y : MethodName} {bytes : ByteArray} {ty : FieldType} {av : List Value} {h : mH} {r : Int32} (hpl : plainName y.cls = true) (hn : narrow ty (.int r) = .int r) (hlen : (lg_sl av).length ≤ mx) (hp : post (some (.inl r)) h)
    (body : ∀ (p : Program) (e : Env) (s : State) (m : MethodId) (args : Array Value) (below : List Frame) (meth : Method) (c : Code) (Q : State → Prop) (ls : Array Slot), CallFix p m c bytes mx s args gtbl y.cls → va_K w.2.2.1 vwCl [(w.2.2.2.1, .int)] s → Ext w s s.heap → Rl w s h s.heap [] → lv_has ls mx (lv_args 0 av) →
      (∀ (pc : Nat) (ls : Array Slot) (H : Heap) (locs : List Loc), Rl w s h H locs → decode bytes pc = .ok (.ireturn, 1) → W p l e (rmD d) s m args below meth c H locs 0 0 Q (F0 m pc ls [.int r])) → W p l e (rmD d) s m args below meth c s.heap [] 0 0 Q (F0 m 0 ls [])) : MXp l w d y bytes mx (some ty) av h post := by
  refine Met.ofW (cc := bytes) (maxL := mx) (ret := some ty) hpl rfl ?_
  intro p e s m args below meth c s₁ B hml hv
  obtain ⟨rfl, hP, hK, hD, hSm, hE⟩ := hv
  have hx := B.exec
  have hb := B.bytes
  have hr := B.returns
  have hts := atoms_spec (ws := .code y bytes mx (some ty) :: gtbl) B.pre
  have hown : s.vm.findClass y.cls = some m.cls := findClass_of_methodNamed B.named
  have hlocks := B.notSynchronized
  rw [lg_entry_eq]
  refine body p e s m av.toArray below meth c _ _ ⟨hx, hb, hml, hown, fun q hq => hts q (List.mem_cons_of_mem _ hq)⟩ hK hE ⟨hP, hD, va_S.rf, hSm⟩ (lv_entry av hlen) ?_
  intro pc ls H locs hR hd
  exact W.zret (ty := ty) hx hb hr hn (fun t ht hW => ⟨⟨some (.inl r), h, rfl, hp, by rw [ht]; exact hR.1, hR.2.1, hR.2.2.2⟩, hR.2.2.1.F ht⟩) hR.2.2.1.2.2 hd
theorem mx_of {l : Launch} {w : mW} {d mx : Nat} {y : MethodName} {bytes : ByteArray} {ty : FieldType} {av : List Value} {h : mH} {r : Int32} (hpl : plainName y.cls = true) (hn : narrow ty (.int r) = .int r) (hlen : (lg_sl av).length ≤ mx)
    (body : ∀ (p : Program) (e : Env) (s : State) (m : MethodId) (args : Array Value) (below : List Frame) (meth : Method) (c : Code) (Q : State → Prop) (ls : Array Slot), CallFix p m c bytes mx s args gtbl y.cls → va_K w.2.2.1 vwCl [(w.2.2.2.1, .int)] s → Ext w s s.heap → Rl w s h s.heap [] → lv_has ls mx (lv_args 0 av) →
      (∀ (pc : Nat) (ls : Array Slot) (H : Heap) (locs : List Loc), Rl w s h H locs → decode bytes pc = .ok (.ireturn, 1) → W p l e (rmD d) s m args below meth c H locs 0 0 Q (F0 m pc ls [.int r])) → W p l e (rmD d) s m args below meth c s.heap [] 0 0 Q (F0 m 0 ls [])) : MX l w d y bytes mx (some ty) av h r := mx_ofp hpl hn hlen ⟨rfl, rfl⟩ body
def byW : List Int32 := [119, 115, 100, 114, 103, 109, 102]
theorem Ext.tx {w : mW} {s : State} {H : Heap} (hE : Ext w s H) : va_OF "java/lang/String" "coder" "B" (.int 0) (w.1 (.inr 21)) w.2.2.2.2.1 s H ∧ va_OF "java/lang/String" "value" "[B" (.ref w.2.1) (w.1 (.inr 21)) w.2.2.2.2.1 s H ∧ va_T .byte w.2.1 7 (fun j => .int (byW.getD j 0)) w.2.2.2.2.1 s H := ⟨(hE.2.2.2.1.1 0 (by decide)).2.1, (hE.2.2.2.1.1 0 (by decide)).2.2.1, (hE.2.2.2.1.1 0 (by decide)).2.2.2⟩
set_option maxHeartbeats 4000000 in
set_option maxRecDepth 100000 in
theorem x_coder (l : Launch) (w : mW) (d : Nat) (h : mH) : MX l w d yJ0_coder_7d493 cJ0_coder_7d493 1 (some .byte) [.ref (w.1 (.inr 21))] h 0 := by
  refine mx_of (by decide) rfl (Nat.le_of_ble_eq_true rfl) ?_
  intro p e s m args below meth c Q ls S hK hE hR hl kr
  obtain ⟨hx, hb, hml, hown, hts⟩ := S
  have hl : lv_has ls 1 [(0, .ref (w.1 (.inr 21)))] := hl
  obtain ⟨t1, t2, t3⟩ := hE.tx
  refine va_gets hx hb (C := "java/lang/String") (own := "java/lang/String") (index := 38) (ref := "java/lang/String") hE.2.2.2.2.1 hR.2.2.1 hown (hts _ (inQ_ok (by decide +kernel))) (fun _ q => q) (by decide +kernel) ?_
  refine lv_if_eq (off := 10) (tgt := 13) hx hb (by decide +kernel) (by decide) (fun q => absurd q (by decide)) (fun _ => ?_)
  refine lv_aload_n hx hb (k := 0) (by decide +kernel) rfl (lv_at hl 0 rfl) ?_
  refine vk_getf hx hb (o := "java/lang/String") (own := "java/lang/String") (index := 15) (ref := "java/lang/String") t1 hR.2.2.1 hown (hts _ (inQ_ok (by decide +kernel))) (fun _ q => q) (by decide +kernel) ?_
  refine lv_goto (off := 4) (tgt := 14) hx hb (by decide +kernel) (by decide) ?_
  exact kr _ _ _ _ hR (by decide +kernel)
set_option maxHeartbeats 4000000 in
set_option maxRecDepth 100000 in
theorem x_isLatin1 (l : Launch) (w : mW) (d : Nat) (h : mH) : MX l w d yJ0_isLatin1_aae02 cJ0_isLatin1_aae02 1 (some .boolean) [.ref (w.1 (.inr 21))] h 1 := by
  refine mx_of (by decide) rfl (Nat.le_of_ble_eq_true rfl) ?_
  intro p e s m args below meth c Q ls S hK hE hR hl kr
  obtain ⟨hx, hb, hml, hown, hts⟩ := S
  have hl : lv_has ls 1 [(0, .ref (w.1 (.inr 21)))] := hl
  obtain ⟨t1, t2, t3⟩ := hE.tx
  refine va_gets hx hb (C := "java/lang/String") (own := "java/lang/String") (index := 38) (ref := "java/lang/String") hE.2.2.2.2.1 hR.2.2.1 hown (hts _ (inQ_ok (by decide +kernel))) (fun _ q => q) (by decide +kernel) ?_
  refine lv_if_eq (off := 14) (tgt := 17) hx hb (by decide +kernel) (by decide) (fun q => absurd q (by decide)) (fun _ => ?_)
  refine lv_aload_n hx hb (k := 0) (by decide +kernel) rfl (lv_at hl 0 rfl) ?_
  refine vk_getf hx hb (o := "java/lang/String") (own := "java/lang/String") (index := 15) (ref := "java/lang/String") t1 hR.2.2.1 hown (hts _ (inQ_ok (by decide +kernel))) (fun _ q => q) (by decide +kernel) ?_
  refine lv_if_ne (off := 7) (tgt := 17) hx hb (by decide +kernel) (by decide) (fun q => absurd rfl q) (fun _ => ?_)
  refine lv_iconst (n := 1) (v := 1) hx hb (by decide +kernel) (by decide) ?_
  refine lv_goto (off := 4) (tgt := 18) hx hb (by decide +kernel) (by decide) ?_
  exact kr _ _ _ _ hR (by decide +kernel)
set_option maxHeartbeats 4000000 in
set_option maxRecDepth 100000 in
theorem x_length (l : Launch) (w : mW) (d : Nat) (h : mH) : MX l w (d + 1) yJ0_length_8abf5 cJ0_length_8abf5 1 (some .int) [.ref (w.1 (.inr 21))] h 7 := by
  refine mx_of (by decide) rfl (Nat.le_of_ble_eq_true rfl) ?_
  intro p e s m args below meth c Q ls S hK hE hR hl kr
  obtain ⟨hx, hb, hml, hown, hts⟩ := id S
  have hl : lv_has ls 1 [(0, .ref (w.1 (.inr 21)))] := hl
  obtain ⟨t1, t2, t3⟩ := hE.tx
  refine lv_aload_n hx hb (k := 0) (by decide +kernel) rfl (lv_at hl 0 rfl) ?_
  refine vk_getf hx hb (o := "java/lang/String") (own := "java/lang/String") (index := 9) (ref := "java/lang/String") t2 hR.2.2.1 hown (hts _ (inQ_ok (by decide +kernel))) (fun _ q => q) (by decide +kernel) ?_
  refine va_tlen hx hb t3 hR.2.2.1 (v := 7) (by decide) (by decide +kernel) ?_
  refine lv_aload_n hx hb (k := 0) (by decide +kernel) rfl (lv_at hl 0 rfl) ?_
  refine mx_V (As := []) (rest := [.int 7]) (i := 335) (n := 0) S hK hE (x_coder l w d h) (by decide +kernel) ⟨rfl, by decide +kernel⟩ (by decide) rfl ⟨Nat.le_refl _, Nat.le_refl _⟩ ⟨Nat.zero_le _, Nat.zero_le _⟩ hR hl.1 (by decide) (by decide +kernel) (fun H1 locs1 hR => ?_)
  refine lv_ishr hx hb (by decide +kernel) ?_
  exact kr _ _ _ _ hR (by decide +kernel)
def canE (x : Int32) : Int32 := if x < 0 ∨ 255 < x then 0 else 1
set_option maxHeartbeats 4000000 in
set_option maxRecDepth 100000 in
theorem x_canEncode (l : Launch) (w : mW) (d : Nat) (h : mH) (x : Int32) : MX l w d yJ1_canEncode_9a6ad cJ1_canEncode_9a6ad 1 (some .boolean) [.int x] h (canE x) := by
  refine mx_of (by decide) (by unfold canE; split <;> rfl) (Nat.le_of_ble_eq_true rfl) ?_
  intro p e s m args below meth c Q ls S hK hE hR hl kr
  obtain ⟨hx, hb, hml, hown, hts⟩ := S
  have hl : lv_has ls 1 [(0, .int x)] := hl
  refine lv_iload_n hx hb (k := 0) (by decide +kernel) rfl (lv_at hl 0 rfl) ?_
  have k0 : canE x = 0 → W p l e (rmD d) s m args below meth c s.heap [] 0 0 Q (F0 m 15 ls []) := fun q => by
    refine lv_iconst (n := 0) (v := 0) hx hb (by decide +kernel) (by decide) ?_
    rw [← q]
    exact kr _ _ _ _ hR (by decide +kernel)
  refine lv_if_lt (off := 14) (tgt := 15) hx hb (by decide +kernel) (by decide) (fun q => k0 (by rw [canE, if_pos (Or.inl q)])) (fun q1 => ?_)
  refine lv_iload_n hx hb (k := 0) (by decide +kernel) rfl (lv_at hl 0 rfl) ?_
  refine lv_sipush (n := 255) (v := 255) hx hb (by decide +kernel) (by decide) ?_
  refine lv_icmp_gt (off := 7) (tgt := 15) hx hb (by decide +kernel) (by decide) (fun q => k0 (by rw [canE, if_pos (Or.inr q)])) (fun q2 => ?_)
  refine lv_iconst (n := 1) (v := 1) hx hb (by decide +kernel) (by decide) ?_
  refine lv_goto (off := 4) (tgt := 16) hx hb (by decide +kernel) (by decide) ?_
  have e1 : canE x = 1 := by rw [canE, if_neg (fun z => z.elim q1 q2)]
  rw [← e1]
  exact kr _ _ _ _ hR (by decide +kernel)
def fndW (b : Int32) : Nat → Nat → Int32
  | 0, _ => -1
  | n + 1, k => if byW.getD k 0 = b then nI k else fndW b n (k + 1)
set_option maxHeartbeats 4000000 in
set_option maxRecDepth 100000 in
theorem x_indexOfChar (l : Launch) (w : mW) (d : Nat) (h : mH) (x : Int32) : MX l w d yJ1_indexOfChar_4cfef cJ1_indexOfChar_4cfef 6 (some .int) [.ref w.2.1, .int x, .int 0, .int 7] h (fndW x.toInt8.toInt32 7 0) := by
  refine mx_of (by decide) rfl (Nat.le_of_ble_eq_true rfl) ?_
  intro p e s m args below meth c Q ls S hK hE hR hl kr
  obtain ⟨hx, hb, hml, hown, hts⟩ := S
  have hl : lv_has ls 6 [(0, .ref w.2.1), (1, .int x), (2, .int 0), (3, .int 7)] := hl
  obtain ⟨t1, t2, t3⟩ := hE.tx
  refine lv_iload_n hx hb (k := 1) (by decide +kernel) rfl (lv_at hl 1 rfl) ?_
  refine lv_i2b hx hb (by decide +kernel) rfl ?_
  refine lv_istore (lv' := [(4, .int x.toInt8.toInt32), (0, .ref w.2.1), (1, .int x), (2, .int 0), (3, .int 7)]) hx hb (i := 4) (by decide +kernel) hl (by decide) rfl (fun ls hl => ?_)
  refine lv_iload_n hx hb (k := 2) (by decide +kernel) rfl (lv_at hl 3 rfl) ?_
  refine lv_istore (lv' := [(5, .int 0), (4, .int x.toInt8.toInt32), (0, .ref w.2.1), (1, .int x), (2, .int 0), (3, .int 7)]) hx hb (i := 5) (by decide +kernel) hl (by decide) rfl (fun ls hl => ?_)
  have hl : lv_has ls 6 [(5, .int (nI 0)), (4, .int x.toInt8.toInt32), (0, .ref w.2.1), (1, .int x), (2, .int 0), (3, .int 7)] := hl
  have loop : ∀ (n k : Nat) (ls : Array Slot), n + k = 7 → fndW x.toInt8.toInt32 7 0 = fndW x.toInt8.toInt32 n k → lv_has ls 6 [(5, .int (nI k)), (4, .int x.toInt8.toInt32), (0, .ref w.2.1), (1, .int x), (2, .int 0), (3, .int 7)] → W p l e (rmD d) s m args below meth c s.heap [] 0 0 Q (F0 m 7 ls []) := by
    intro n
    induction n with
    | zero =>
      intro k ls hk hr hl
      refine lv_iload hx hb (i := 5) (by decide +kernel) (lv_at hl 0 rfl) ?_
      refine lv_iload_n hx hb (k := 3) (by decide +kernel) rfl (lv_at hl 5 rfl) ?_
      obtain rfl : k = 7 := by omega
      refine lv_icmp_ge (off := 21) (tgt := 31) hx hb (by decide +kernel) (by decide) (fun _ => ?_) (fun q => absurd (by decide) q)
      refine lv_iconst (n := -1) (v := -1) hx hb (by decide +kernel) (by decide) ?_
      rw [show (-1 : Int32) = fndW x.toInt8.toInt32 7 0 from hr.symm]
      exact kr _ _ _ _ hR (by decide +kernel)
    | succ n ih =>
      intro k ls hk hr hl
      refine lv_iload hx hb (i := 5) (by decide +kernel) (lv_at hl 0 rfl) ?_
      refine lv_iload_n hx hb (k := 3) (by decide +kernel) rfl (lv_at hl 5 rfl) ?_
      have hk7 : k < 7 := by omega
      refine lv_icmp_ge (off := 21) (tgt := 31) hx hb (by decide +kernel) (by decide) (fun q => ?_) (fun _ => ?_)
      · exact absurd q (by have : ∀ k, k < 7 → ¬ (7 : Int32) ≤ nI k := by decide
                           exact this k hk7)
      refine lv_aload_n hx hb (k := 0) (by decide +kernel) rfl (lv_at hl 2 rfl) ?_
      refine lv_iload hx hb (i := 5) (by decide +kernel) (lv_at hl 0 rfl) ?_
      refine va_tb hx hb t3 hR.2.2.1 (vp_in_nI hk7 (by omega)) (v := .int (byW.getD k 0)) (by rw [nI_clamp (by omega)]) (by decide +kernel) ?_
      refine lv_iload hx hb (i := 4) (by decide +kernel) (lv_at hl 1 rfl) ?_
      refine lv_icmp_ne (off := 6) (tgt := 25) hx hb (by decide +kernel) (by decide) (fun q => ?_) (fun q => ?_)
      · refine lv_iinc (v := nI (k + 1)) (lv' := [(5, .int (nI (k + 1))), (4, .int x.toInt8.toInt32), (0, .ref w.2.1), (1, .int x), (2, .int 0), (3, .int 7)]) hx hb (i := 5) (n := 1) (by decide +kernel) hl (k := 0) rfl (nI_1 k) (by decide) rfl (fun ls hl => ?_)
        refine lv_goto (off := -21) (tgt := 7) hx hb (by decide +kernel) (by decide) ?_
        exact ih (k + 1) ls (by omega) (by rw [hr, fndW, if_neg q]) hl
      · refine lv_iload hx hb (i := 5) (by decide +kernel) (lv_at hl 0 rfl) ?_
        rw [show nI k = fndW x.toInt8.toInt32 7 0 by rw [hr, fndW, if_pos q]]
        exact kr _ _ _ _ hR (by decide +kernel)
  exact loop 7 0 ls rfl rfl hl
def resW (x : Int32) : Int32 := if canE x = 0 then -1 else fndW x.toInt8.toInt32 7 0
set_option maxHeartbeats 4000000 in
set_option maxRecDepth 100000 in
theorem x_lindexOf (l : Launch) (w : mW) (d : Nat) (h : mH) (x : Int32) : MX l w (d + 1) yJ1_indexOf_4cfef cJ1_indexOf_4cfef 4 (some .int) [.ref w.2.1, .int x, .int 0, .int 7] h (resW x) := by
  refine mx_of (by decide) rfl (Nat.le_of_ble_eq_true rfl) ?_
  intro p e s m args below meth c Q ls S hK hE hR hl kr
  obtain ⟨hx, hb, hml, hown, hts⟩ := id S
  have hl : lv_has ls 4 [(0, .ref w.2.1), (1, .int x), (2, .int 0), (3, .int 7)] := hl
  obtain ⟨t1, t2, t3⟩ := hE.tx
  refine lv_iload_n hx hb (k := 1) (by decide +kernel) rfl (lv_at hl 1 rfl) ?_
  refine mx_S (As := [.int x]) (rest := []) (i := 88) (n := 1) S hK hE (x_canEncode l w d h x) (by decide +kernel) ⟨rfl, by decide +kernel⟩ (by decide) rfl ⟨Nat.le_refl _, Nat.le_refl _⟩ ⟨Nat.zero_le _, Nat.zero_le _⟩ hR hl.1 (by decide) (by decide +kernel) (fun H1 locs1 hR => ?_)
  refine lv_if_ne (off := 5) (tgt := 9) hx hb (by decide +kernel) (by decide) (fun q => ?_) (fun q => ?_)
  · refine lv_iload_n hx hb (k := 2) (by decide +kernel) rfl (lv_at hl 2 rfl) ?_
    refine lv_iconst (n := 0) (v := 0) hx hb (by decide +kernel) (by decide) ?_
    refine va_mmax (own := "java/lang/StringLatin1") (index := 92) hx hb (by rw [hml]; exact hl.1.symm) hown (hts _ (inQ_ok (by decide +kernel))) (hts _ (inQ_ok (by decide +kernel))) (hts _ (inQ_ok (by decide +kernel))) (hts _ (inQ_ok (by decide +kernel))) (Nat.le_add_left 1 d) (by show 0 + 13 ≤ 41 * (d + 1); omega) (Nat.zero_le _) (Nat.zero_le _) (by decide +kernel) ?_
    rw [show (if (0 : Int32) < 0 then (0 : Int32) else 0) = 0 from rfl]
    refine lv_istore_n (lv' := [(2, .int 0), (0, .ref w.2.1), (1, .int x), (3, .int 7)]) hx hb (k := 2) (by decide +kernel) rfl hl (by decide) rfl (fun ls hl => ?_)
    refine lv_iload_n hx hb (k := 3) (by decide +kernel) rfl (lv_at hl 3 rfl) ?_
    refine lv_aload_n hx hb (k := 0) (by decide +kernel) rfl (lv_at hl 1 rfl) ?_
    refine va_tlen hx hb t3 hR.2.2.1 (v := 7) (by decide) (by decide +kernel) ?_
    refine va_mmin (own := "java/lang/StringLatin1") (index := 38) hx hb (by rw [hml]; exact hl.1.symm) hown (hts _ (inQ_ok (by decide +kernel))) (hts _ (inQ_ok (by decide +kernel))) (hts _ (inQ_ok (by decide +kernel))) (hts _ (inQ_ok (by decide +kernel))) (Nat.le_add_left 1 d) (by show 0 + 13 ≤ 41 * (d + 1); omega) (Nat.zero_le _) (Nat.zero_le _) (by decide +kernel) ?_
    rw [show (if (7 : Int32) < 7 then (7 : Int32) else 7) = 7 by decide]
    refine lv_istore_n (lv' := [(3, .int 7), (2, .int 0), (0, .ref w.2.1), (1, .int x)]) hx hb (k := 3) (by decide +kernel) rfl hl (by decide) rfl (fun ls hl => ?_)
    refine lv_iload_n hx hb (k := 2) (by decide +kernel) rfl (lv_at hl 1 rfl) ?_
    refine lv_iload_n hx hb (k := 3) (by decide +kernel) rfl (lv_at hl 0 rfl) ?_
    refine lv_icmp_lt (off := 5) (tgt := 29) hx hb (by decide +kernel) (by decide) (fun _ => ?_) (fun q => absurd (by decide) q)
    refine lv_aload_n hx hb (k := 0) (by decide +kernel) rfl (lv_at hl 2 rfl) ?_
    refine lv_iload_n hx hb (k := 1) (by decide +kernel) rfl (lv_at hl 3 rfl) ?_
    refine lv_iload_n hx hb (k := 2) (by decide +kernel) rfl (lv_at hl 1 rfl) ?_
    refine lv_iload_n hx hb (k := 3) (by decide +kernel) rfl (lv_at hl 0 rfl) ?_
    refine mx_S (As := [.ref w.2.1, .int x, .int 0, .int 7]) (rest := []) (i := 95) (n := 4) S hK hE (x_indexOfChar l w d h x) (by decide +kernel) ⟨rfl, by decide +kernel⟩ (by decide) rfl ⟨Nat.le_refl _, Nat.le_refl _⟩ ⟨Nat.zero_le _, Nat.zero_le _⟩ hR hl.1 (by decide) (by decide +kernel) (fun H1 locs1 hR => ?_)
    rw [show fndW x.toInt8.toInt32 7 0 = resW x by rw [resW, if_neg q]]
    exact kr _ _ _ _ hR (by decide +kernel)
  · refine lv_iconst (n := -1) (v := -1) hx hb (by decide +kernel) (by decide) ?_
    rw [show (-1 : Int32) = resW x by rw [resW, if_pos q]]
    exact kr _ _ _ _ hR (by decide +kernel)
set_option maxHeartbeats 4000000 in
set_option maxRecDepth 100000 in
theorem x_indexOf2 (l : Launch) (w : mW) (d : Nat) (h : mH) (x : Int32) : MX l w (d + 2) yJ0_indexOf_7cf53 cJ0_indexOf_7cf53 3 (some .int) [.ref (w.1 (.inr 21)), .int x, .int 0] h (resW x) := by
  refine mx_of (by decide) rfl (Nat.le_of_ble_eq_true rfl) ?_
  intro p e s m args below meth c Q ls S hK hE hR hl kr
  obtain ⟨hx, hb, hml, hown, hts⟩ := id S
  have hl : lv_has ls 3 [(0, .ref (w.1 (.inr 21))), (1, .int x), (2, .int 0)] := hl
  obtain ⟨t1, t2, t3⟩ := hE.tx
  refine lv_aload_n hx hb (k := 0) (by decide +kernel) rfl (lv_at hl 0 rfl) ?_
  refine mx_V (As := []) (rest := []) (i := 492) (n := 0) S hK hE (x_isLatin1 l w (d + 1) h) (by decide +kernel) ⟨rfl, by decide +kernel⟩ (by decide) rfl ⟨Nat.le_refl _, Nat.le_refl _⟩ ⟨Nat.zero_le _, Nat.zero_le _⟩ hR hl.1 (by decide) (by decide +kernel) (fun H1 locs1 hR => ?_)
  refine lv_if_eq (off := 19) (tgt := 23) hx hb (by decide +kernel) (by decide) (fun q => absurd q (by decide)) (fun _ => ?_)
  refine lv_aload_n hx hb (k := 0) (by decide +kernel) rfl (lv_at hl 0 rfl) ?_
  refine vk_getf hx hb (o := "java/lang/String") (own := "java/lang/String") (index := 9) (ref := "java/lang/String") t2 hR.2.2.1 hown (hts _ (inQ_ok (by decide +kernel))) (fun _ q => q) (by decide +kernel) ?_
  refine lv_iload_n hx hb (k := 1) (by decide +kernel) rfl (lv_at hl 1 rfl) ?_
  refine lv_iload_n hx hb (k := 2) (by decide +kernel) rfl (lv_at hl 2 rfl) ?_
  refine lv_aload_n hx hb (k := 0) (by decide +kernel) rfl (lv_at hl 0 rfl) ?_
  refine mx_V (As := []) (rest := [.int 0, .int x, .ref w.2.1]) (i := 505) (n := 0) S hK hE (x_length l w d h) (by decide +kernel) ⟨rfl, by decide +kernel⟩ (by decide) rfl ⟨Nat.le_refl _, Nat.le_refl _⟩ ⟨Nat.zero_le _, Nat.zero_le _⟩ hR hl.1 (Nat.le_of_ble_eq_true rfl) (by decide +kernel) (fun H2 locs2 hR => ?_)
  refine mx_S (As := [.ref w.2.1, .int x, .int 0, .int 7]) (rest := []) (i := 637) (n := 4) S hK hE (x_lindexOf l w d h x) (by decide +kernel) ⟨rfl, by decide +kernel⟩ (by decide) rfl ⟨Nat.le_refl _, Nat.le_refl _⟩ ⟨Nat.zero_le _, Nat.zero_le _⟩ hR hl.1 (by decide) (by decide +kernel) (fun H3 locs3 hR => ?_)
  refine lv_goto (off := 16) (tgt := 36) hx hb (by decide +kernel) (by decide) ?_
  exact kr _ _ _ _ hR (by decide +kernel)
set_option maxHeartbeats 4000000 in
set_option maxRecDepth 100000 in
theorem x_indexOf1 (l : Launch) (w : mW) (d : Nat) (h : mH) (x : Int32) {post : mP} (hp : post (some (.inl (resW x))) h) : MXp l w (d + 3) yJ0_indexOf_0f7a4 cJ0_indexOf_0f7a4 2 (some .int) [.ref (w.1 (.inr 21)), .int x] h post := by
  refine mx_ofp (by decide) rfl (Nat.le_of_ble_eq_true rfl) hp ?_
  intro p e s m args below meth c Q ls S hK hE hR hl kr
  obtain ⟨hx, hb, hml, hown, hts⟩ := id S
  have hl : lv_has ls 2 [(0, .ref (w.1 (.inr 21))), (1, .int x)] := hl
  refine lv_aload_n hx hb (k := 0) (by decide +kernel) rfl (lv_at hl 0 rfl) ?_
  refine lv_iload_n hx hb (k := 1) (by decide +kernel) rfl (lv_at hl 1 rfl) ?_
  refine lv_iconst (n := 0) (v := 0) hx hb (by decide +kernel) (by decide) ?_
  refine mx_V (As := [.int x, .int 0]) (rest := []) (i := 633) (n := 2) S hK hE (x_indexOf2 l w d h x) (by decide +kernel) ⟨rfl, by decide +kernel⟩ (by decide) rfl ⟨Nat.le_refl _, Nat.le_refl _⟩ ⟨Nat.zero_le _, Nat.zero_le _⟩ hR hl.1 (by decide) (by decide +kernel) (fun H1 locs1 hR => ?_)
  exact kr _ _ _ _ hR (by decide +kernel)
set_option maxHeartbeats 4000000 in
set_option maxRecDepth 100000 in
theorem resW_xix (x : Int32) : resW x = xix x := by
  have hk : ∀ n, n < 256 → fndW (nI n).toInt8.toInt32 7 0 = xix (nI n) := by decide +kernel
  unfold resW
  by_cases h : x < 0 ∨ 255 < x
  · rw [if_pos (by rw [canE, if_pos h])]
    have hne : ∀ k : Int32, ¬ (k < 0 ∨ 255 < k) → x ≠ k := fun k hk e => hk (e ▸ h)
    simp only [xix, if_neg (hne 119 (by decide)), if_neg (hne 115 (by decide)), if_neg (hne 100 (by decide)), if_neg (hne 114 (by decide)), if_neg (hne 103 (by decide)), if_neg (hne 109 (by decide)), if_neg (hne 102 (by decide))]
  · rw [if_neg (by rw [canE, if_neg h]; decide)]
    have h1 : ¬ x < 0 := fun z => h (Or.inl z)
    have h2 : ¬ 255 < x := fun z => h (Or.inr z)
    have h3 : 0 ≤ x.toInt := by
      have := mt Int32.lt_iff_toInt_lt.mpr h1
      simpa using this
    have h4 : x.toInt ≤ 255 := by
      have := mt Int32.lt_iff_toInt_lt.mpr h2
      simpa using this
    have e : x = nI x.toInt.toNat := by
      apply Int32.toInt_inj.mp
      rw [nI_toInt (by omega)]
      omega
    rw [e]
    exact hk _ (by omega)
set_option maxHeartbeats 4000000 in
set_option maxRecDepth 100000 in
theorem x_sound (l : Launch) (w : mW) : ∀ d, XSound l w d (Kd w.2.2.2.2.2.1 d)
  | 0 => fun as h post H0 => H0.elim
  | d + 1 => fun as h post H0 => by
    rcases H0 with ⟨-, hd, x, rfl, hp⟩ | ⟨hy, -⟩
    · refine ⟨?_, x, rfl⟩
      obtain ⟨k, rfl⟩ : ∃ k, d = k + 2 := ⟨d - 2, by omega⟩
      exact x_indexOf1 l w k h x (by rw [resW_xix]; exact hp)
    · exact absurd hy (by decide)
