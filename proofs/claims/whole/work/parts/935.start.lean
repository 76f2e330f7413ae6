/-! ===== the law from its entry ===== -/
def adI (t m : Nat) (a3 a4 : Nat → Nat) (n20 s21 b : Nat) : mRef → Nat := fun r => match r with
  | .inl (i, q) => a3 ([0, 7, 15].getD i.val 0 + [0, 1, 2, 3, 5, 6, 4].getD q 0)
  | .inr 0 => t
  | .inr 1 => a3 26
  | .inr 2 => a3 14
  | .inr 3 => a3 22
  | .inr 4 => a3 23
  | .inr 5 => a3 24
  | .inr 6 => a3 25
  | .inr 7 => m
  | .inr 20 => n20
  | .inr 21 => s21
  | .inr 22 => b
  | .inr n => a4 (n - 8)
def permI : List Nat := [1, 2, 3, 4, 6, 7, 5, 8, 9, 10, 11, 13, 14, 12, 16, 17, 18, 19, 21, 22, 20, 0, 27, 15, 23, 24, 25, 26, 28, 29, 30, 31, 32, 33, 34, 35, 36, 37]
set_option maxHeartbeats 4000000 in
set_option maxRecDepth 100000 in
theorem wl_init (cI : ClassId) (t m : Nat) (a3 a4 : Nat → Nat) (n20 s21 b : Nat) (xs : Nat → Int32) : permI.map (fun i => (wX3 cI t a3 ++ wX4 cI m a4)[i]?) = (wl (adI t m a3 a4 n20 s21 b) cI (hI xs)).map some := rfl
set_option maxHeartbeats 4000000 in
set_option maxRecDepth 100000 in
theorem filterMap_of_map {α β : Type} {f : α → Option β} : ∀ {l : List α} {r : List β}, l.map f = r.map some → l.filterMap f = r
  | [], [], _ => rfl
  | a :: l, b :: r, h => by
    simp only [List.map_cons, List.cons.injEq] at h
    rw [List.filterMap_cons_some h.1, filterMap_of_map h.2]
set_option maxHeartbeats 4000000 in
set_option maxRecDepth 100000 in
theorem gtbl_sub {w : Cond} (h : w ∈ gtbl) : w ∈ lw_tbl := (List.mem_filter.mp h).1
set_option maxHeartbeats 4000000 in
set_option maxRecDepth 100000 in
/-- what the Statement says of the start, for the walk -/
theorem ext_start {p : Program} {s : State} {m : MethodId} {meth : Method} {c : Code} {b L : Nat} {xs : Nat → Int32} (C0 : lw_At p s m meth c b L xs) : ∃ (n20 s21 by21 : Nat), ∀ (ad : mRef → Nat) (D : va_G) (cI : ClassId), ad (.inr 20) = n20 → ad (.inr 21) = s21 → ad (.inr 22) = b → Ext (ad, by21, D, cI, (fun q : Nat => s.heap.size ≤ q), L, nbF, xs) s s.heap := by
  obtain ⟨hx, hb, hr, hml, hown, hts, hX, hbl, hlocks, hgv⟩ := C0
  have hg := flat_of_before _ hgv
  have hA : ∀ a : Nat, a < s.heap.size → ¬ (fun q : Nat => s.heap.size ≤ q) a := fun a h => Nat.not_le.mpr h
  obtain ⟨n20, e20, hT⟩ := va_Tof (args := #[Value.ref b]) (s := s) (tm := .static "TornLayers" "NUMBERS_OF" "[I") (ty := .int) (N := 7) (f := fun j => .int (nbF j)) (A := fun q : Nat => s.heap.size ≤ q) (by decide) (hg _ (by decide +kernel)) (va_eqt (hg _ (by decide +kernel))) (fun j hj => by
    rcases (show j = 0 ∨ j = 1 ∨ j = 2 ∨ j = 3 ∨ j = 4 ∨ j = 5 ∨ j = 6 by omega) with rfl | rfl | rfl | rfl | rfl | rfl | rfl
    · exact va_eqt (z := 3) (hg _ (by decide +kernel))
    · exact va_eqt (z := 1) (hg _ (by decide +kernel))
    · exact va_eqt (z := 1) (hg _ (by decide +kernel))
    · exact va_eqt (z := 1) (hg _ (by decide +kernel))
    · exact va_eqt (z := 2) (hg _ (by decide +kernel))
    · exact va_eqt (z := 1) (hg _ (by decide +kernel))
    · exact va_eqt (z := 0) (hg _ (by decide +kernel))) hA
  obtain ⟨adK, adV, hS, hK⟩ := vk_Sof (args := #[Value.ref b]) (s := s) (N := 1) (tm := fun _ => .string "TornLayers$Tape" 42) (len := [7]) (byt := [[119, 115, 100, 114, 103, 109, 102]]) (A := fun q : Nat => s.heap.size ≤ q) (by decide)
    (fun i hi => hg _ (by decide +kernel)) (fun i hi => hg _ (by decide +kernel)) (fun i hi => hg _ (by decide +kernel))
    (fun i hi => by
      obtain rfl : i = 0 := by omega
      exact hg _ (by decide +kernel))
    (fun i hi j hj => by
      obtain rfl : i = 0 := by omega
      have hj : j < 7 := hj
      rcases (show j = 0 ∨ j = 1 ∨ j = 2 ∨ j = 3 ∨ j = 4 ∨ j = 5 ∨ j = 6 by omega) with rfl | rfl | rfl | rfl | rfl | rfl | rfl <;> exact hg _ (by decide +kernel))
    (fun i j hi hj hne => absurd (show i = j by omega) hne) hA
  refine ⟨n20, adK 0, adV 0, fun ad D cI h20 h21 h22 => ?_⟩
  refine ⟨?_, ?_, ?_, ⟨fun i hi => ?_, fun i j hi hj _ => by omega⟩, ?_, ?_, ?_, ?_, fun q hq => ?_⟩
  · show va_Z _ _ _ (.ref (ad (.inr 20))) _ _ _
    rw [h20]
    exact va_Zof (hts _ (by decide +kernel)) (hts _ (by decide +kernel)) e20 hA
  · show va_T _ (ad (.inr 20)) _ _ _ _ _
    rw [h20]
    exact hT
  · show vk_R _ _ _ (ad (.inr 21)) _
    rw [h21]
    exact vk_R.of (hts (.stringRef "TornLayers$Tape" 42 "wsdrgmf") (by decide +kernel)) (hK 0 (by decide))
  · obtain rfl : i = 0 := by omega
    show va_O _ (ad (.inr 21)) _ _ _ ∧ va_OF _ _ _ _ (ad (.inr 21)) _ _ _ ∧ va_OF _ _ _ _ (ad (.inr 21)) _ _ _ ∧ _
    rw [h21]
    exact hS.1 0 hi
  · exact va_Zof (hts _ (by decide +kernel)) (hts _ (by decide +kernel)) (va_eqi (hg _ (by decide +kernel))) hA
  · show va_X (ad (.inr 22)) _ _ _ _
    rw [h22]
    exact hX
  · show ad (.inr 22) < _
    rw [h22]
    exact hbl
  · show ¬ s.heap.size ≤ ad (.inr 22)
    rw [h22]
    exact Nat.not_le.mpr hbl
  · have hq2 : ∀ q ∈ xNest, q ∈ lw_tbl ∧ q.onTables = true := by decide +kernel
    exact va_Nw.of (hq2 q hq).2 (hts q (hq2 q hq).1)
set_option maxHeartbeats 4000000 in
set_option maxRecDepth 100000 in
/-- what is known of the classes -/
theorem kn_start {s : State} {args : Array Value} (hts : ∀ w ∈ gtbl, w.before args s = true) : ∃ (D : va_G) (cI : ClassId), va_K D vwCl [(cI, .int)] s := by
  obtain ⟨c0, i0, k0⟩ := u_known (C := RX0) (T := TX0) (N := 8) (n := 8) hts uw_0 (hts (.instantiable RX0 8) (inQ_ok (by decide +kernel)))
  obtain ⟨c1, i1, k1⟩ := u_known (C := RX1) (T := TX1) (N := 6) (n := 6) hts uw_1 (hts (.instantiable RX1 6) (inQ_ok (by decide +kernel)))
  obtain ⟨c2, i2, k2⟩ := u_known (C := RX2) (T := TX2) (N := 9) (n := 9) hts uw_2 (hts (.instantiable RX2 9) (inQ_ok (by decide +kernel)))
  obtain ⟨c3, i3, k3⟩ := u_known (C := RX3) (T := TX3) (N := 7) (n := 7) hts uw_3 (hts (.instantiable RX3 7) (inQ_ok (by decide +kernel)))
  obtain ⟨c4, i4, k4⟩ := u_known (C := RX4) (T := TX4) (N := 18) (n := 18) hts uw_4 (hts (.instantiable RX4 18) (inQ_ok (by decide +kernel)))
  obtain ⟨cI, kA, comp, h1, h2, h3⟩ := Cond.arrayClass_spec (hts (.arrayClass .int) (inQ_ok (by decide +kernel)))
  refine ⟨(fun k => match k with | 0 => c0 | 1 => c1 | 2 => c2 | 3 => c3 | _ => c4, fun k => match k with | 0 => i0 | 1 => i1 | 2 => i2 | 3 => i3 | _ => i4), cI, fun k q hq => ?_, fun k q hq => ?_⟩
  · match k, hq with
    | 0, hq => cases hq; exact k0
    | 1, hq => cases hq; exact k1
    | 2, hq => cases hq; exact k2
    | 3, hq => cases hq; exact k3
    | 4, hq => cases hq; exact k4
    | k + 5, hq => simp [vwCl] at hq
  · match k, hq with
    | 0, hq => cases hq; exact ⟨fun n z => ⟨fun k h => (by cases h), kA, h2, comp, h3⟩, h1⟩
    | k + 1, hq => simp at hq
set_option maxHeartbeats 4000000 in
set_option maxRecDepth 100000 in
theorem start_of {p : Program} {e : Env} {s : State} {m : MethodId} {below : List Frame} {meth : Method} {c : Code} (l : Launch) {b L : Nat} {xs : Nat → Int32} (hcl : ∀ ci, ci < 5 → clsOk ci) (hmo : ∀ y, y < 195 → metOk y) (hyo : ∀ y, y < 195 → yOk y) (hX0 : xOk) (hZ : ∃ lk, lkG R_law lk ∧ okC lk R_law code 4 (some .boolean) md_L_law = true) (hL : L ≤ 2560) (C0 : lw_At p s m meth c b L xs) : W p l e room_1 s m #[Value.ref b] below meth c s.heap [] 0 0 (lw_Z below #[Value.ref b] s) (entryFrame m ([Value.ref b] : List Value).toArray 4) := by
  obtain ⟨n20, s21, by21, hEx⟩ := ext_start C0
  obtain ⟨hx, hb, hr, hml, hown, hts0, hX, hbl, hlocks, hgv⟩ := C0
  have hts : ∀ w ∈ gtbl, w.before #[Value.ref b] s = true := fun w hw => hts0 w (gtbl_sub hw)
  obtain ⟨D, cI, hK⟩ := kn_start hts
  obtain ⟨lk, hG, hC⟩ := hZ
  have S : CallFix p m c code 4 s #[Value.ref b] gtbl R_law := ⟨hx, hb, hml, hown, hts⟩
  generalize hAe : (fun q : Nat => s.heap.size ≤ q) = A at hEx
  have hA : ∀ q : Nat, s.heap.size ≤ q → A q := fun q h => by rw [← hAe]; exact h
  have hS : va_S A s.heap s.heap [] := va_S.rf
  have hP : va_P D vwCl [] s.heap := fun k q h => by simp at h
  have hD : va_D A [] := ⟨fun i j p q h => by simp at h, fun k q h => by simp at h⟩
  have hl := lv_entry ([.ref b]) (n := 4) (Nat.le_of_ble_eq_true rfl)
  rw [lg_entry_eq]
  generalize (lg_sl ([.ref b]) ++ List.replicate (4 - (lg_sl ([.ref b])).length) Slot.unset).toArray = ls at hl ⊢
  have hl : lv_has ls 4 [(0, .ref b)] := hl
  refine va_new (ci := 3) (fs := [.null, .null, .null, .null, .null, .int 0, .int 0]) (C := RX3) (T := TX3) (N := 7) hx hb hts uw_3 tyX3 tyX3_ok hown (hts (.classLink R_law 7 RX3) (inQ_ok (by decide +kernel))) (hts (.instantiable RX3 7) (inQ_ok (by decide +kernel))) (hts (.initialized RX3) (inQ_ok (by decide +kernel))) hK hP hD hS hA rfl (fun j hj => by rcases (show j = 0 ∨ j = 1 ∨ j = 2 ∨ j = 3 ∨ j = 4 ∨ j = 5 ∨ j = 6 by omega) with rfl | rfl | rfl | rfl | rfl | rfl | rfl <;> rfl) (Nat.le_of_ble_eq_true rfl) (Nat.le_of_ble_eq_true rfl) (by decide +kernel) (fun t H hP hD hS => ?_)
  have hP : va_P D vwCl [(t, .inr (3, [.null, .null, .null, .null, .null, .int 0, .int 0]))] H := hP
  have hD : va_D A [(t, .inr (3, [.null, .null, .null, .null, .null, .int 0, .int 0]))] := hD
  refine W.widen (k := 1) (n := 7) (Nat.le_refl _) (Nat.le_refl _) ?_
  refine lv_dup hx hb (by decide +kernel) rfl ?_
  have n1 : va_Nw n21 s := va_Nw.of rfl (hts0 n21 (by decide +kernel))
  have n2 : va_Nw n28 s := va_Nw.of rfl (hts0 n28 (by decide +kernel))
  refine cn_IT (i := 9) (rest := [.ref t]) (wr := []) S (i_X3 l D cI t H.size) ⟨n1, n2⟩ (by decide +kernel) ⟨rfl, by decide +kernel, by decide +kernel, by decide +kernel⟩ ⟨rfl, rfl, Nat.le_of_ble_eq_true rfl, Nat.le_of_ble_eq_true rfl⟩ ⟨Nat.le_of_ble_eq_true rfl, Nat.le_of_ble_eq_true rfl⟩ hK hl.1 (Nat.le_of_ble_eq_true rfl) (by decide +kernel) hP hD hS hA [0] [] rfl (by decide) rfl (by decide) (by decide) (fun a3 H locs hP hD hS => ?_)
  have hP : va_P D vwCl (wX3 cI t a3) H := hP
  have hD : va_D A (wX3 cI t a3) := hD
  refine W.widen (k := 28) (n := 1539) (Nat.le_refl _) (Nat.le_refl _) ?_
  refine lv_astore_n (k := 1) (lv' := [(1, .ref t), (0, .ref b)]) hx hb (by decide +kernel) rfl hl (by decide) rfl (fun ls hl => ?_)
  refine va_new (ci := 4) (fs := [.null, .null, .null, .int 0, .null, .null, .null, .int 0, .int 0, .int 0, .int 0, .int 0, .null, .null, .null, .int 0, .int 0, .int 0]) (C := RX4) (T := TX4) (N := 18) hx hb hts uw_4 tyX4 tyX4_ok hown (hts (.classLink R_law 10 RX4) (inQ_ok (by decide +kernel))) (hts (.instantiable RX4 18) (inQ_ok (by decide +kernel))) (hts (.initialized RX4) (inQ_ok (by decide +kernel))) hK hP hD hS hA rfl (fun j hj => by rcases (show j = 0 ∨ j = 1 ∨ j = 2 ∨ j = 3 ∨ j = 4 ∨ j = 5 ∨ j = 6 ∨ j = 7 ∨ j = 8 ∨ j = 9 ∨ j = 10 ∨ j = 11 ∨ j = 12 ∨ j = 13 ∨ j = 14 ∨ j = 15 ∨ j = 16 ∨ j = 17 by omega) with rfl | rfl | rfl | rfl | rfl | rfl | rfl | rfl | rfl | rfl | rfl | rfl | rfl | rfl | rfl | rfl | rfl | rfl <;> rfl) (Nat.le_of_ble_eq_true rfl) (Nat.le_of_ble_eq_true rfl) (by decide +kernel) (fun r H hP hD hS => ?_)
  refine W.widen (k := 29) (n := 1557) (Nat.le_refl _) (Nat.le_refl _) ?_
  refine lv_dup hx hb (by decide +kernel) rfl ?_
  refine cn_I (i := 12) (rest := [.ref r]) (wr := wX3 cI t a3) S (i_X4 l D cI r H.size) (by decide +kernel) ⟨rfl, by decide +kernel, by decide +kernel, by decide +kernel⟩ ⟨rfl, rfl, Nat.le_of_ble_eq_true rfl, Nat.le_of_ble_eq_true rfl⟩ ⟨Nat.le_of_ble_eq_true rfl, Nat.le_of_ble_eq_true rfl⟩ hK hl.1 (Nat.le_of_ble_eq_true rfl) (by decide +kernel) hP hD hS hA [28] [0, 1, 2, 3, 4, 5, 6, 7, 8, 9, 10, 11, 12, 13, 14, 15, 16, 17, 18, 19, 20, 21, 22, 23, 24, 25, 26, 27] rfl (by decide) rfl (by decide) (by decide) (fun a4 H locs hP hD hS => ?_)
  refine W.widen (k := 38) (n := 3493) (Nat.le_refl _) (Nat.le_refl _) ?_
  refine lv_astore_n (k := 2) (lv' := [(2, .ref r), (1, .ref t), (0, .ref b)]) hx hb (by decide +kernel) rfl hl (by decide) rfl (fun ls hl => ?_)
  refine lv_iconst (n := 0) (v := 0) hx hb (by decide +kernel) (by decide) ?_
  refine lv_istore_n (k := 3) (lv' := [(3, .int 0), (2, .ref r), (1, .ref t), (0, .ref b)]) hx hb (by decide +kernel) rfl hl (by decide) rfl (fun ls hl => ?_)
  have hwl := wl_init cI t r a3 a4 n20 s21 b xs
  have hP := hP.sub (ws' := wl (adI t r a3 a4 n20 s21 b) cI (hI xs)) permI (filterMap_of_map hwl)
  have hD := hD.sub (ws' := wl (adI t r a3 a4 n20 s21 b) cI (hI xs)) permI (by decide) hwl
  have hE := hEx (adI t r a3 a4 n20 s21 b) D cI rfl rfl rfl
  have hlr : LR (adI t r a3 a4 n20 s21 b) 4 ls (lsL 0) := ⟨rfl, lv_sub hl [3, 2, 1, 0] rfl⟩
  refine sn_EX (cells := 38) (slots := 3493) (w := (adI t r a3 a4 n20 s21 b, by21, D, cI, A, L, nbF, xs)) (d := 13) (M := Kd L 13) (ret := some .boolean) (post := pI fun x _ => x = nI 1) ⟨S, hK, hE, hG, hcl, hmo, Nat.le_of_ble_eq_true rfl, Nat.le_of_ble_eq_true rfl⟩ (sn_K l _ hcl hmo hyo hX0 (x_sound l _) 13) (x_sound l _ 13) hX0 ⟨Nat.le_of_ble_eq_true rfl, Nat.le_of_ble_eq_true rfl⟩ hC ?_ (law_all hL xs) (q := 18) rfl H locs ls hlr ⟨hP, hD, hS, rfl, rfl⟩
  intro v h' H locs real pc i hp hR hd hrt
  match v, hp, hrt with
  | some (.inl x), hp, hrt =>
    have hp : x = nI 1 := hp
    subst hp
    rcases hrt with ⟨rfl, -⟩ | ⟨-, ⟨x, hx⟩, -⟩ | ⟨-, hx, -⟩
    · refine va_forget (fun q hq => ?_) ?_
      · have := hR.2.2.1.2.2 q hq
        rw [← hAe] at this
        exact this
      · exact lw_ret hx hb hr hlocks hd
    · cases hx
    · cases hx
