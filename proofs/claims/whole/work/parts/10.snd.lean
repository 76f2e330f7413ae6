/-! ===== each instruction that meets the heap ===== -/
theorem obj_len (r : mRef) : (obj r).2.length ≤ 18 := by
  unfold obj
  split <;> simp
theorem arr_cases {sL : Nat} {r : mRef} {n : Nat} (h : arr sL r = some n) : arw r = some n ∨ (r = .inr 20 ∧ n = 7) ∨ (r = .inr 22 ∧ n = sL) := by
  unfold arr at h
  split at h <;> first | exact Or.inl h | (cases h; exact Or.inr (Or.inl ⟨rfl, rfl⟩)) | (cases h; exact Or.inr (Or.inr ⟨rfl, rfl⟩)) | cases h
theorem arw_sm {r : mRef} {n : Nat} (h : arw r = some n) : r ≠ .inr 20 ∧ r ≠ .inr 22 := by
  refine ⟨fun e => ?_, fun e => ?_⟩ <;> (subst e; cases h)
theorem Sm.hup {w : mW} {h : mH} (hs : Sm w h) {r : mRef} (h1 : r ≠ .inr 20) (h2 : r ≠ .inr 22) (k : Nat) (v : Int32) : Sm w (hup h r k v) := by
  refine ⟨?_, ?_⟩
  · rw [← hs.1]; funext k'; exact hup_other (Ne.symm h1) k'
  · rw [← hs.2]; funext k'; exact hup_other (Ne.symm h2) k'
theorem Sm.hcp {w : mW} {h : mH} (hs : Sm w h) {a d : mRef} (h1 : d ≠ .inr 20) (h2 : d ≠ .inr 22) (sp dp n : Nat) : Sm w (hcp h a sp d dp n) := by
  refine ⟨?_, ?_⟩
  · rw [← hs.1]; funext k'; simp [_root_.Jvm.Pilot.CTornLayersLaw_law_r3866_5c6994.hcp, Ne.symm h1]
  · rw [← hs.2]; funext k'; simp [_root_.Jvm.Pilot.CTornLayersLaw_law_r3866_5c6994.hcp, Ne.symm h2]
theorem swt_in {x : Int32} {L : Nat → Prop} {D : Prop} : ∀ (ts : List Nat) (lo : Int) (j : Nat), swt x L D lo ts → j < ts.length → (∀ i : Nat, i < j → ¬ x = Int32.ofInt (lo + i)) → x = Int32.ofInt (lo + j) → ∃ k, ts[j]? = some k ∧ L k
  | [], _, _, _, hj, _, _ => absurd hj (Nat.not_lt_zero _)
  | k :: ts, lo, 0, h, _, _, e => ⟨k, rfl, h.1 (by simpa using e)⟩
  | k :: ts, lo, j + 1, h, hj, hn, e => by
    have h0 : ¬ x = Int32.ofInt lo := by simpa using hn 0 (by omega)
    obtain ⟨k', h1, h2⟩ := swt_in ts (lo + 1) j (h.2 h0) (by simpa using hj) (fun i hi => by
      have := hn (i + 1) (by omega)
      rwa [show lo + ((i + 1 : Nat) : Int) = lo + 1 + (i : Int) by omega] at this) (by rw [e, show lo + ((j + 1 : Nat) : Int) = lo + 1 + (j : Int) by omega])
    exact ⟨k', by simpa using h1, h2⟩
theorem swt_out {x : Int32} {L : Nat → Prop} {D : Prop} : ∀ (ts : List Nat) (lo : Int), swt x L D lo ts → (∀ i : Nat, i < ts.length → ¬ x = Int32.ofInt (lo + i)) → D
  | [], _, h, _ => h
  | k :: ts, lo, h, hn => swt_out ts (lo + 1) (h.2 (by simpa using hn 0 (by simp))) (fun i hi => by
      have := hn (i + 1) (by simpa using hi)
      rwa [show lo + ((i + 1 : Nat) : Int) = lo + 1 + (i : Int) by omega] at this)
theorem okTs_at {code : List mB} {pc : Nat} : ∀ (os : List Int) (ks : List Nat), okTs code pc os ks = true → os.length = ks.length ∧ ∀ (j k : Nat), ks[j]? = some k → ∃ o, os[j]? = some o ∧ okT code pc o k = true
  | [], [], _ => ⟨rfl, fun j k h => by simp at h⟩
  | [], _ :: _, h => by cases h
  | _ :: _, [], h => by cases h
  | o :: os, k :: ks, h => by
    simp only [okTs, Bool.and_eq_true] at h
    obtain ⟨h1, h2⟩ := okTs_at os ks h.2
    refine ⟨by simp [h1], fun j k' hk => ?_⟩
    cases j with
    | zero => simp at hk; subst hk; exact ⟨o, rfl, h.1⟩
    | succ j => simp at hk; obtain ⟨o', h3, h4⟩ := h2 j k' hk; exact ⟨o', by simpa using h3, h4⟩
theorem okT_spc {code : List mB} {pc : Nat} {o : Int} {k : Nat} (h : okT code pc o k = true) : ∃ q, spc code k = some q ∧ (pc : Int) + o = (q : Int) := by
  unfold okT at h
  split at h
  · rename_i q e; exact ⟨q, e, of_decide_eq_true h⟩
  · cases h
section SN
variable {p : Program} {l : Launch} {e : Env} {R : Room} {s : State} {m : MethodId} {args : Array Value} {below : List Frame} {meth : Method} {c : Code} {H : Heap} {locs : List Loc} {cells slots : Nat} {Q : State → Prop} {cc : ByteArray} {pc nL d : Nat} {own : String} {lk : mLk} {w : mW} {real : Array Slot} {h : mH} {rest : List Value}
theorem sn_cls {ci k : Nat} {C : String} {T : u_T} {N : Nat} (C0 : Cx p R s m args c cc nL own lk w d) (hc : vwCl[ci]? = some (C, T, N)) : (∀ w ∈ u_ws C T N, w ∈ gtbl) ∧ ∃ ty : Nat → FieldType, (∀ k, k < N → parseFieldDescriptor (T k).2.2.1 = some (ty k)) ∧ (∀ a, a < N → ∀ b, b < N → a ≠ b → (T a).2.1 ≠ (T b).2.1) := by
  obtain ⟨C', T', N', ty, h1, h2, h3, h4⟩ := C0.2.2.2.2.1 ci (List.getElem?_eq_some_iff.mp hc).1
  cases hc.symm.trans h1
  exact ⟨h2, ty, h3, h4⟩
theorem sn_get {i ci k : Nat} {r : mRef} {o : Option mRef} (C0 : Cx p R s m args c cc nL own lk w d) (hR : Rl w s h H locs) (hok : (i, ci, k) ∈ lk.1) (hr : (obj r).1 = ci) (ho : (obj r).2[k]? = some o) (hd : decode cc pc = .ok (.getfield i, 3))
    (kk : W p l e R s m args below meth c H locs cells slots Q (F0 m (pc + 3) real (fov w.1 h r k o :: rest))) : W p l e R s m args below meth c H locs cells slots Q (F0 m pc real (.ref (w.1 r) :: rest)) := by
  have hk : k < 1000 := by have := (List.getElem?_eq_some_iff.mp ho).1; have := obj_len r; omega
  obtain ⟨C, T, N, hc, h1, h2, -⟩ := C0.2.2.2.1.1 i ci k hok
  rw [Nat.mod_eq_of_lt hk] at h1 h2
  obtain ⟨⟨hx, hb, hml, hown, hts⟩, hK, -⟩ := id C0
  have hne : (obj r).1 ≠ 99 := by
    have := (List.getElem?_eq_some_iff.mp hc).1
    simp [vwCl] at this
    omega
  exact va_get (D := w.2.2.1) (cl := vwCl) (ws := wl w.1 w.2.2.2.1 h) (ci := ci) (C := C) (T := T) (N := N) hx hb hts (sn_cls (k := 0) C0 hc).1 hown hK hR.1 (mpos r) (by rw [wl_obj hne, hr]) hc k h1 (hts _ h2) (fun _ h9 => h9) (fvs_at ho) hd kk
theorem sn_put {i ci k kx : Nat} {r : mRef} {v : Int32} {ty : FieldType} (C0 : Cx p R s m args c cc nL own lk w d) (hR : Rl w s h H locs) (hok : (i, ci, kx) ∈ lk.1) (hkx : kx = k + 1000 ∧ ty = .boolean ∨ kx = k + 2000 ∧ ty = .int) (hn : narrow ty (.int v) = .int v) (hf : fits ty (.int v) = true) (hr : (obj r).1 = ci) (ho : (obj r).2[k]? = some none) (hd : decode cc pc = .ok (.putfield i, 3))
    (kk : ∀ (H1 : Heap) (locs1 : List Loc), Rl w s (hup h r k v) H1 locs1 → W p l e R s m args below meth c H1 locs1 cells slots Q (F0 m (pc + 3) real rest)) : W p l e R s m args below meth c H locs cells slots Q (F0 m pc real (.int v :: .ref (w.1 r) :: rest)) := by
  have hk0 : k < (obj r).2.length := (List.getElem?_eq_some_iff.mp ho).1
  have hk : k < 1000 := by have := obj_len r; omega
  obtain ⟨C, T, N, hc, h1, h2, h3, h4⟩ := C0.2.2.2.1.1 i ci kx hok
  have hm : kx % 1000 = k := by rcases hkx with ⟨e, -⟩ | ⟨e, -⟩ <;> omega
  rw [hm] at h1 h2 h3 h4
  have h5 : (T k).2.2.2 = false ∧ parseFieldDescriptor (T k).2.2.1 = some ty := by
    rcases hkx with ⟨e, e2⟩ | ⟨e, e2⟩
    · rw [e2]; exact h3 (by omega)
    · rw [e2]; exact h4 (by omega)
  obtain ⟨⟨hx, hb, hml, hown, hts⟩, hK, -⟩ := id C0
  have hne : (obj r).1 ≠ 99 := by
    have := (List.getElem?_eq_some_iff.mp hc).1
    simp [vwCl] at this
    omega
  obtain ⟨hin, ty0, hty, hnm⟩ := sn_cls (k := 0) C0 hc
  refine va_put (D := w.2.2.1) (cl := vwCl) (ws := wl w.1 w.2.2.2.1 h) (ci := ci) (C := C) (T := T) (N := N) hx hb hts hin ty0 hty hnm hown hK hR.1 hR.2.1 hR.2.2.1 (mpos r) (fs := fvs w.1 h r) (by rw [wl_obj hne, hr]) hc k h1 (hts _ h2) (fun _ h9 => h9) h5.1 h5.2 hn hf (by rw [fvs_len]; exact hk0) hd (fun H1 locs1 hP hD hS => kk H1 locs1 ?_)
  rw [← hr, ← wl_hupO hne ho] at hP hD
  refine ⟨hP, hD, hS, hR.2.2.2.hup ?_ ?_ k v⟩ <;> (intro e9; subst e9; exact hne rfl)
theorem sn_ald {j : Int32} {r : mRef} {n : Nat} (C0 : Cx p R s m args c cc nL own lk w d) (hR : Rl w s h H locs) (hr : arr w.2.2.2.2.2.1 r = some n) (hj : vp_in j n) (hd : decode cc pc = .ok (.iaload, 1))
    (kk : W p l e R s m args below meth c H locs cells slots Q (F0 m (pc + 1) real (.int (h r j.toNatClampNeg) :: rest))) : W p l e R s m args below meth c H locs cells slots Q (F0 m pc real (.int j :: .ref (w.1 r) :: rest)) := by
  obtain ⟨⟨hx, hb, hml, hown, hts⟩, hK, hE, -⟩ := id C0
  rcases arr_cases hr with h1 | ⟨rfl, rfl⟩ | ⟨rfl, rfl⟩
  · exact va_iald (D := w.2.2.1) (cl := vwCl) (ws := wl w.1 w.2.2.2.1 h) hx hb hK hR.1 (mpos r) 0 (wl_arr h1) rfl hj hd kk
  · rw [hR.2.2.2.1] at kk
    exact va_ti hx hb hE.2.1 hR.2.2.1 hj rfl hd kk
  · rw [hR.2.2.2.2] at kk
    exact va_sld hx hb hE.2.2.2.2.2.1 hE.2.2.2.2.2.2.1 hE.2.2.2.2.2.2.2.1 hR.2.2.1 hj hd kk
theorem sn_len {r : mRef} {n : Nat} (C0 : Cx p R s m args c cc nL own lk w d) (hR : Rl w s h H locs) (hr : arr w.2.2.2.2.2.1 r = some n) (hd : decode cc pc = .ok (.arraylength, 1))
    (kk : W p l e R s m args below meth c H locs cells slots Q (F0 m (pc + 1) real (.int (nI n) :: rest))) : W p l e R s m args below meth c H locs cells slots Q (F0 m pc real (.ref (w.1 r) :: rest)) := by
  obtain ⟨⟨hx, hb, hml, hown, hts⟩, hK, hE, -⟩ := id C0
  rcases arr_cases hr with h1 | ⟨rfl, rfl⟩ | ⟨rfl, rfl⟩
  · exact va_alen (D := w.2.2.1) (cl := vwCl) (ws := wl w.1 w.2.2.2.1 h) hx hb hK hR.1 (mpos r) 0 (wl_arr h1) rfl rfl hd kk
  · exact va_tlen hx hb hE.2.1 hR.2.2.1 rfl hd kk
  · exact va_slen hx hb hE.2.2.2.2.2.1 hE.2.2.2.2.2.2.1 hE.2.2.2.2.2.2.2.1 hR.2.2.1 hd kk
theorem sn_ast {j v : Int32} {r : mRef} {n : Nat} (C0 : Cx p R s m args c cc nL own lk w d) (hR : Rl w s h H locs) (hr : arw r = some n) (hj : vp_in j n) (hd : decode cc pc = .ok (.iastore, 1))
    (kk : ∀ (H1 : Heap) (locs1 : List Loc), Rl w s (hup h r j.toNatClampNeg v) H1 locs1 → W p l e R s m args below meth c H1 locs1 cells slots Q (F0 m (pc + 1) real rest)) : W p l e R s m args below meth c H locs cells slots Q (F0 m pc real (.int v :: .int j :: .ref (w.1 r) :: rest)) := by
  obtain ⟨⟨hx, hb, hml, hown, hts⟩, hK, hE, -⟩ := id C0
  refine va_iast (D := w.2.2.1) (cl := vwCl) (ws := wl w.1 w.2.2.2.1 h) hx hb hK hR.1 hR.2.1 hR.2.2.1 (mpos r) 0 (wl_arr hr) rfl hj hd (fun H1 locs1 hP hD hS => kk H1 locs1 ?_)
  rw [← wl_hupA hr] at hP hD
  exact ⟨hP, hD, hS, hR.2.2.2.hup (arw_sm hr).1 (arw_sm hr).2 _ _⟩
theorem sn_copy {i : Nat} {a t : mRef} {na nd : Nat} {sp dp n : Int32} (C0 : Cx p R s m args c cc nL own lk w d) (hR : Rl w s h H locs) (hsz : real.size = nL) (hok : i ∈ lk.2.2.2.2) (ha : arw a = some na) (ht : arw t = some nd) (h1 : 0 ≤ sp) (h2 : 0 ≤ dp) (h3 : 0 ≤ n) (h4 : sp.toNatClampNeg + n.toNatClampNeg ≤ na) (h5 : dp.toNatClampNeg + n.toNatClampNeg ≤ nd) (hrest : (rest.map fun v => v.category).sum ≤ 8) (hd : decode cc pc = .ok (.invokestatic i, 3))
    (kk : ∀ (H1 : Heap) (locs1 : List Loc), Rl w s (hcp h a sp.toNatClampNeg t dp.toNatClampNeg n.toNatClampNeg) H1 locs1 → W p l e R s m args below meth c H1 locs1 cells slots Q (F0 m (pc + 3) real rest)) : W p l e R s m args below meth c H locs cells slots Q (F0 m pc real (.int n :: .int dp :: .ref (w.1 t) :: .int sp :: .ref (w.1 a) :: rest)) := by
  obtain ⟨⟨hx, hb, hml, hown, hts⟩, hK, hE, hG, -, -, hf1, hf2⟩ := id C0
  obtain ⟨g1, g2, g3, g4⟩ := hG.2.2.2.2 i hok
  refine va_copyi (D := w.2.2.1) (cl := vwCl) (ws := wl w.1 w.2.2.2.1 h) (ty := .int) hx hb (hml.trans hsz.symm) hown (hts _ g1) (hts _ g2) (hts _ g3) (hts _ g4) hK hR.1 hR.2.1 hR.2.2.1 (mpos a) (mpos t) 0 0 (wl_arr ha) (wl_arr ht) rfl rfl rfl (Int32.not_lt.mpr h1) (Int32.not_lt.mpr h2) (Int32.not_lt.mpr h3) h4 h5 (fun _ _ => rfl) (by omega) (by simp only [nativeFrameWords]; simp; omega) hd (fun H1 locs1 hP hD hS => kk H1 locs1 ?_)
  rw [← wl_hcp ht] at hP hD
  exact ⟨hP, hD, hS, hR.2.2.2.hcp (arw_sm ht).1 (arw_sm ht).2 _ _ _⟩
end SN
