/-! ===== links ===== -/
def lkX0 : mLk := ([(9, 0, 0), (15, 0, 1), (18, 0, 2), (21, 0, 3), (24, 0, 4), (27, 0, 5), (27, 0, 2005), (31, 0, 6), (31, 0, 2006), (34, 0, 7)], [(49, 0, 1, 2), (53, 0, 9, 3), (57, 0, 10, 3), (60, 0, 11, 3), (63, 0, 13, 3), (66, 2, 98, 2), (70, 0, 16, 3), (76, 0, 18, 3), (80, 0, 19, 2), (37, 1, 193, 2), (84, 0, 21, 1), (87, 0, 22, 1)], [], [(74, 18446744073709551614)], [43])
def lkX1 : mLk := ([(18, 1, 2), (9, 1, 0), (18, 1, 2002), (22, 1, 3), (22, 1, 2003), (28, 1, 2005), (28, 1, 5), (25, 1, 2004), (25, 1, 4), (15, 1, 1)], [(31, 0, 32, 1), (35, 0, 31, 1), (38, 0, 29, 1), (44, 4, 900, 2), (53, 1, 193, 2), (59, 0, 33, 2)], [], [], [])
def lkX2 : mLk := ([(18, 2, 2001), (22, 2, 2002), (25, 2, 2003), (28, 2, 2004), (12, 2, 0), (31, 2, 2005), (34, 2, 2006), (37, 2, 2007), (37, 2, 7), (34, 2, 6), (31, 2, 5), (52, 0, 1), (18, 2, 1), (22, 2, 2), (25, 2, 3), (28, 2, 4), (97, 0, 0), (109, 0, 2), (40, 2, 8), (126, 0, 4), (147, 0, 3)], [(44, 0, 0, 2), (48, 0, 36, 1), (55, 0, 35, 3), (59, 0, 44, 4), (63, 0, 6, 1), (67, 0, 45, 3), (71, 0, 46, 2), (75, 0, 47, 2), (78, 0, 48, 3), (81, 0, 49, 2), (84, 0, 50, 4), (87, 0, 51, 1), (90, 0, 9, 3), (94, 0, 38, 1), (106, 0, 10, 3), (112, 2, 97, 1), (116, 0, 37, 3), (120, 0, 13, 3), (123, 0, 40, 3), (129, 0, 41, 2), (132, 1, 194, 4), (138, 0, 42, 1), (141, 0, 1, 2), (144, 0, 11, 3), (150, 0, 15, 4), (154, 0, 18, 3), (158, 0, 19, 2), (162, 2, 98, 2), (166, 0, 17, 3)], [(119, 1000000)], [], [100])
def lkX3 : mLk := ([(12, 3, 0), (53, 0, 5), (62, 0, 3), (94, 0, 6), (94, 0, 2006), (100, 0, 1), (106, 0, 7), (109, 0, 0), (22, 3, 2), (164, 2, 0), (29, 3, 3), (177, 1, 2), (177, 1, 2002), (187, 1, 5), (190, 1, 1), (193, 1, 2003), (199, 1, 4), (16, 3, 1), (37, 3, 1005), (37, 3, 5), (41, 3, 6), (33, 3, 4), (227, 2, 7), (230, 2, 6), (41, 3, 2006)], [(45, 0, 2, 2), (49, 0, 88, 2), (56, 0, 4, 2), (59, 0, 1, 2), (65, 0, 12, 2), (68, 0, 93, 2), (71, 0, 7, 2), (74, 1, 96, 1), (77, 0, 13, 3), (81, 0, 3, 2), (84, 0, 14, 3), (87, 0, 89, 5), (91, 0, 90, 2), (97, 1, 97, 1), (103, 0, 22, 1), (112, 0, 23, 1), (116, 0, 24, 1), (119, 0, 25, 1), (122, 0, 26, 1), (125, 0, 27, 1), (129, 1, 99, 1), (132, 0, 20, 2), (138, 1, 98, 2), (142, 0, 94, 2), (145, 0, 18, 3), (149, 0, 19, 2), (153, 0, 16, 3), (157, 1, 95, 1), (160, 0, 39, 3), (167, 1, 191, 1), (173, 0, 43, 3), (180, 0, 28, 2), (184, 0, 30, 1), (195, 0, 32, 1), (202, 0, 31, 1), (205, 0, 0, 2), (209, 0, 5, 1), (212, 0, 91, 5), (216, 0, 92, 3), (219, 0, 8, 3), (222, 0, 34, 5), (233, 0, 6, 1)], [(226, 1000000)], [(136, 18446744073709551615)], [])
def lkX4 : mLk := ([(19, 4, 4), (7, 4, 0), (22, 4, 5), (25, 4, 6), (78, 4, 9), (82, 4, 10), (85, 4, 7), (89, 4, 8), (78, 4, 1009), (85, 4, 2007), (82, 4, 1010), (28, 4, 12), (89, 4, 2008), (13, 4, 1), (179, 4, 11), (179, 4, 2011), (226, 4, 15), (31, 4, 13), (226, 4, 2015), (229, 4, 17), (34, 4, 14), (235, 4, 16), (229, 4, 2017), (235, 4, 2016), (16, 4, 2), (271, 4, 1003), (271, 4, 3)], [(37, 1, 100, 3), (41, 1, 108, 2), (45, 0, 109, 3), (48, 0, 110, 4), (52, 0, 103, 2), (56, 0, 101, 2), (60, 1, 105, 1), (63, 0, 111, 3), (66, 0, 104, 2), (69, 0, 118, 2), (72, 0, 120, 2), (75, 0, 119, 1), (92, 0, 122, 1), (96, 0, 123, 3), (100, 0, 125, 6), (104, 0, 127, 1), (108, 0, 126, 3), (111, 0, 124, 3), (114, 0, 128, 3), (117, 0, 129, 2), (121, 0, 133, 2), (124, 0, 131, 2), (127, 0, 132, 1), (130, 0, 134, 3), (133, 0, 130, 4), (137, 0, 140, 4), (140, 0, 142, 3), (144, 0, 143, 2), (147, 0, 135, 3), (150, 0, 136, 2), (153, 0, 137, 2), (156, 0, 138, 3), (159, 0, 139, 2), (162, 0, 141, 4), (165, 0, 144, 1), (168, 1, 102, 2), (172, 0, 145, 6), (175, 0, 146, 5), (182, 1, 148, 1), (185, 0, 121, 1), (188, 0, 147, 5), (192, 1, 106, 1), (195, 0, 117, 3), (198, 1, 107, 1), (203, 0, 162, 2), (206, 0, 163, 2), (212, 0, 167, 1), (215, 0, 170, 4), (219, 0, 172, 6), (223, 0, 176, 3), (232, 1, 181, 1), (238, 0, 182, 2), (241, 0, 183, 1), (244, 0, 149, 4), (247, 0, 150, 2), (250, 0, 151, 2), (253, 0, 152, 2), (256, 0, 153, 3), (259, 0, 154, 2), (262, 0, 156, 1), (265, 0, 184, 1), (268, 0, 185, 2)], [], [(201, 18446744073709551614), (210, 18446744073709551615)], [])
def lkJ13 : mLk := ([], [], [], [(314, 6148914691236517205), (316, 3689348814741910323), (318, 1085102592571150095)], [])
def lkJ7 : mLk := ([], [(13, 1, 192, 3)], [], [], [])
theorem all_app {α : Type} {l1 l2 : List α} {p : α → Bool} (h1 : l1.all p = true) (h2 : ∀ q ∈ l2, p q = true) : ∀ q ∈ l1 ++ l2, p q = true := fun q hq => (List.mem_append.mp hq).elim (fun h => List.all_eq_true.mp h1 q h) (h2 q)
def inT (w : Cond) : Bool := decide (w ∈ lw_tbl) && goodWord w
theorem inT_ok {w : Cond} (h : inT w = true) : w ∈ gtbl := by
  simp only [inT, Bool.and_eq_true, decide_eq_true_eq] at h
  exact gtbl_in h.1 h.2
def fldB (own : String) (i ci k : Nat) : Bool := match vwCl[ci]? with
  | some (_, T, N) => decide ((k % 1000) < N) && inT (Cond.fieldLink own i (T (k % 1000)).1 (T (k % 1000)).2.1 (T (k % 1000)).2.2.1) && (decide (k / 1000 ≠ 1) || (decide ((T (k % 1000)).2.2.2 = false) && decide (parseFieldDescriptor (T (k % 1000)).2.2.1 = some .boolean))) && (decide (k / 1000 ≠ 2) || (decide ((T (k % 1000)).2.2.2 = false) && decide (parseFieldDescriptor (T (k % 1000)).2.2.1 = some .int)))
  | none => false
theorem fldB_ok {own : String} {i ci k : Nat} (h : fldB own i ci k = true) : fldOk own i ci k := by
  unfold fldB at h
  split at h
  · rename_i C T N hc
    simp only [Bool.and_eq_true, Bool.or_eq_true, decide_eq_true_eq] at h
    obtain ⟨⟨⟨h1, h2⟩, h3⟩, h4⟩ := h
    exact ⟨C, T, N, hc, h1, inT_ok h2, fun e => h3.resolve_left (fun z => z e), fun e => h4.resolve_left (fun z => z e)⟩
  · cases h
def lnkB (own : String) (i kd y n : Nat) : Bool := match kd with
  | 0 => decide (y < 195) && decide (1 ≤ n) && decide ((parseMethodDescriptor (mth y).1.desc).map (fun d => d.parameters.length) = some (n - 1)) && inT (Cond.methodLink own i (mth y).1) && inT (Cond.instanceMethod (mth y).1) && inT (Cond.selects (mth y).1.cls (mth y).1 (mth y).1) && (match (mth y).2.2.2.2.2.1 with
      | some k => (match vwCl[k]? with
        | some q => decide (q.1 = (mth y).1.cls)
        | none => false)
      | none => false)
  | 1 => decide (y < 195) && decide ((parseMethodDescriptor (mth y).1.desc).map (fun d => d.parameters.length) = some n) && inT (Cond.methodLink own i (mth y).1) && inT (Cond.static (mth y).1)
  | 2 => decide (y < 195) && decide ((parseMethodDescriptor (mth y).1.desc).map (fun d => d.parameters.length) = some n) && decide (Cond.methodLinkNest own i (mth y).1 "TornLayers" ∈ xNest) && inT (Cond.static (mth y).1)
  | _ => decide (own = "TornLayers$Tape" ∧ i = 44 ∧ y = 900 ∧ n = 2)
theorem lnkB_ok {own : String} {i kd y n : Nat} (h : lnkB own i kd y n = true) : lnkOk own i kd y n := by
  unfold lnkB at h
  unfold lnkOk
  split at h
  · simp only [Bool.and_eq_true, decide_eq_true_eq] at h
    obtain ⟨⟨⟨⟨⟨⟨h1, h2⟩, h3⟩, h4⟩, h5⟩, h6⟩, h7⟩ := h
    refine ⟨h1, h2, h3, inT_ok h4, inT_ok h5, inT_ok h6, ?_⟩
    split at h7
    · rename_i k hk
      split at h7
      · rename_i q hq
        obtain ⟨C, T, N⟩ := q
        have e : C = (mth y).1.cls := of_decide_eq_true h7
        exact ⟨k, T, N, hk, by rw [hq, e]⟩
      · cases h7
    · cases h7
  · simp only [Bool.and_eq_true, decide_eq_true_eq] at h
    obtain ⟨⟨⟨h1, h2⟩, h3⟩, h4⟩ := h
    exact ⟨h1, h2, inT_ok h3, inT_ok h4⟩
  · simp only [Bool.and_eq_true, decide_eq_true_eq] at h
    obtain ⟨⟨⟨h1, h2⟩, h3⟩, h4⟩ := h
    exact ⟨h1, h2, h3, inT_ok h4⟩
  · split <;> first | exact absurd rfl (by assumption) | exact of_decide_eq_true h
def cstB (own : String) (j v : Nat) : Bool := inT (Cond.constant own j (Int32.ofNat v))
def lngB (own : String) (j v : Nat) : Bool := inT (Cond.constantLong own j (Int64.ofNat v))
def acpB (own : String) (i : Nat) : Bool := inT (Cond.methodLink own i arraycopyName) && inT (Cond.native arraycopyName) && inT (Cond.static arraycopyName) && inT (Cond.initialized "java/lang/System")
theorem lkG_of {own : String} {lk : mLk} (h1 : ∀ q ∈ lk.1, fldB own q.1 q.2.1 q.2.2 = true) (h2 : ∀ q ∈ lk.2.1, lnkB own q.1 q.2.1 q.2.2.1 q.2.2.2 = true) (h3 : ∀ q ∈ lk.2.2.1, cstB own q.1 q.2 = true) (h4 : ∀ q ∈ lk.2.2.2.1, lngB own q.1 q.2 = true) (h5 : ∀ q ∈ lk.2.2.2.2, acpB own q = true) : lkG own lk := by
  refine ⟨fun i ci k h => fldB_ok (h1 _ h), fun i kd y n h => lnkB_ok (h2 _ h), fun j v h => inT_ok (h3 _ h), fun j v h => inT_ok (h4 _ h), fun i h => ?_⟩
  have h6 := h5 i h
  simp only [acpB, Bool.and_eq_true] at h6
  exact ⟨inT_ok h6.1.1.1, inT_ok h6.1.1.2, inT_ok h6.1.2, inT_ok h6.2⟩
def metB (y : Nat) : Bool := inT (Cond.code (mth y).1 (mth y).2.1 (mth y).2.2.1 (mth y).2.2.2.1) && inT (Cond.initialized (mth y).1.cls) && decide ((mth y).1.cls ≠ "java/lang/invoke/MethodHandle" ∧ (mth y).1.cls ≠ "java/lang/invoke/VarHandle") && decide ((mth y).2.2.1 ≤ 22) && plainName (mth y).1.cls && decide ((mth y).1.cls = (mth y).2.2.2.2.1)
theorem metB_ok {y : Nat} (h : metB y = true) : metOk y := by
  simp only [metB, Bool.and_eq_true, decide_eq_true_eq] at h
  obtain ⟨⟨⟨⟨⟨h1, h2⟩, h3⟩, h4⟩, h5⟩, h6⟩ := h
  exact ⟨inT_ok h1, inT_ok h2, h3, h4, h5, h6⟩
theorem cls_all : ∀ ci, ci < 5 → clsOk ci
  | 0, _ => ⟨RX0, TX0, 8, tyX0, rfl, fun w h => inT_ok (List.all_eq_true.mp (by decide +kernel : (u_ws RX0 TX0 8).all inT = true) w h), tyX0_ok, nmX0⟩
  | 1, _ => ⟨RX1, TX1, 6, tyX1, rfl, fun w h => inT_ok (List.all_eq_true.mp (by decide +kernel : (u_ws RX1 TX1 6).all inT = true) w h), tyX1_ok, nmX1⟩
  | 2, _ => ⟨RX2, TX2, 9, tyX2, rfl, fun w h => inT_ok (List.all_eq_true.mp (by decide +kernel : (u_ws RX2 TX2 9).all inT = true) w h), tyX2_ok, nmX2⟩
  | 3, _ => ⟨RX3, TX3, 7, tyX3, rfl, fun w h => inT_ok (List.all_eq_true.mp (by decide +kernel : (u_ws RX3 TX3 7).all inT = true) w h), tyX3_ok, nmX3⟩
  | 4, _ => ⟨RX4, TX4, 18, tyX4, rfl, fun w h => inT_ok (List.all_eq_true.mp (by decide +kernel : (u_ws RX4 TX4 18).all inT = true) w h), tyX4_ok, nmX4⟩
  | n + 5, h => absurd h (by omega)
theorem x_ok : xOk := by
  have h : (wsX.head?.toList.all inT && [Cond.methodLink RX1 44 yJ0_indexOf_0f7a4, Cond.instanceMethod yJ0_indexOf_0f7a4, Cond.selects "java/lang/String" yJ0_indexOf_0f7a4 yJ0_indexOf_0f7a4, Cond.initialized "java/lang/String"].all inT) = true := by decide +kernel
  simp only [Bool.and_eq_true, List.all_eq_true] at h
  refine ⟨fun w hw => ?_, inT_ok (h.2 _ (by simp)), inT_ok (h.2 _ (by simp)), inT_ok (h.2 _ (by simp)), inT_ok (h.2 _ (by simp))⟩
  rcases List.mem_cons.mp hw with rfl | hw
  · exact inT_ok (h.1 _ (by simp [wsX]))
  · exact hw
theorem lk_X0_f0 : (([(9, 0, 0), (15, 0, 1), (18, 0, 2), (21, 0, 3), (24, 0, 4), (27, 0, 5), (27, 0, 2005), (31, 0, 6), (31, 0, 2006), (34, 0, 7)] : List (Nat × Nat × Nat)).all (fun q => fldB RX0 q.1 q.2.1 q.2.2)) = true := by decide +kernel
theorem lk_X0_f : ∀ q ∈ lkX0.1, fldB RX0 q.1 q.2.1 q.2.2 = true := List.all_eq_true.mp lk_X0_f0
theorem lk_X0_m0 : (([(49, 0, 1, 2), (53, 0, 9, 3), (57, 0, 10, 3), (60, 0, 11, 3), (63, 0, 13, 3), (66, 2, 98, 2), (70, 0, 16, 3), (76, 0, 18, 3), (80, 0, 19, 2), (37, 1, 193, 2), (84, 0, 21, 1), (87, 0, 22, 1)] : List (Nat × Nat × Nat × Nat)).all (fun q => lnkB RX0 q.1 q.2.1 q.2.2.1 q.2.2.2)) = true := by decide +kernel
theorem lk_X0_m : ∀ q ∈ lkX0.2.1, lnkB RX0 q.1 q.2.1 q.2.2.1 q.2.2.2 = true := List.all_eq_true.mp lk_X0_m0
theorem lk_X0_c0 : (([] : List (Nat × Nat)).all (fun q => cstB RX0 q.1 q.2)) = true := by decide +kernel
theorem lk_X0_c : ∀ q ∈ lkX0.2.2.1, cstB RX0 q.1 q.2 = true := List.all_eq_true.mp lk_X0_c0
theorem lk_X0_l0 : (([(74, 18446744073709551614)] : List (Nat × Nat)).all (fun q => lngB RX0 q.1 q.2)) = true := by decide +kernel
theorem lk_X0_l : ∀ q ∈ lkX0.2.2.2.1, lngB RX0 q.1 q.2 = true := List.all_eq_true.mp lk_X0_l0
theorem lk_X0_a0 : (([43] : List Nat).all (fun q => acpB RX0 q)) = true := by decide +kernel
theorem lk_X0_a : ∀ q ∈ lkX0.2.2.2.2, acpB RX0 q = true := List.all_eq_true.mp lk_X0_a0
theorem lkG_X0 : lkG RX0 lkX0 := lkG_of lk_X0_f lk_X0_m lk_X0_c lk_X0_l lk_X0_a
theorem lk_X1_f0 : (([(18, 1, 2), (9, 1, 0), (18, 1, 2002), (22, 1, 3), (22, 1, 2003), (28, 1, 2005), (28, 1, 5), (25, 1, 2004), (25, 1, 4), (15, 1, 1)] : List (Nat × Nat × Nat)).all (fun q => fldB RX1 q.1 q.2.1 q.2.2)) = true := by decide +kernel
theorem lk_X1_f : ∀ q ∈ lkX1.1, fldB RX1 q.1 q.2.1 q.2.2 = true := List.all_eq_true.mp lk_X1_f0
theorem lk_X1_m0 : (([(31, 0, 32, 1), (35, 0, 31, 1), (38, 0, 29, 1), (44, 4, 900, 2), (53, 1, 193, 2), (59, 0, 33, 2)] : List (Nat × Nat × Nat × Nat)).all (fun q => lnkB RX1 q.1 q.2.1 q.2.2.1 q.2.2.2)) = true := by decide +kernel
theorem lk_X1_m : ∀ q ∈ lkX1.2.1, lnkB RX1 q.1 q.2.1 q.2.2.1 q.2.2.2 = true := List.all_eq_true.mp lk_X1_m0
theorem lk_X1_c0 : (([] : List (Nat × Nat)).all (fun q => cstB RX1 q.1 q.2)) = true := by decide +kernel
theorem lk_X1_c : ∀ q ∈ lkX1.2.2.1, cstB RX1 q.1 q.2 = true := List.all_eq_true.mp lk_X1_c0
theorem lk_X1_l0 : (([] : List (Nat × Nat)).all (fun q => lngB RX1 q.1 q.2)) = true := by decide +kernel
theorem lk_X1_l : ∀ q ∈ lkX1.2.2.2.1, lngB RX1 q.1 q.2 = true := List.all_eq_true.mp lk_X1_l0
theorem lk_X1_a0 : (([] : List Nat).all (fun q => acpB RX1 q)) = true := by decide +kernel
theorem lk_X1_a : ∀ q ∈ lkX1.2.2.2.2, acpB RX1 q = true := List.all_eq_true.mp lk_X1_a0
theorem lkG_X1 : lkG RX1 lkX1 := lkG_of lk_X1_f lk_X1_m lk_X1_c lk_X1_l lk_X1_a
theorem lk_X2_f0 : (([(18, 2, 2001), (22, 2, 2002), (25, 2, 2003), (28, 2, 2004), (12, 2, 0), (31, 2, 2005), (34, 2, 2006), (37, 2, 2007), (37, 2, 7), (34, 2, 6), (31, 2, 5), (52, 0, 1)] : List (Nat × Nat × Nat)).all (fun q => fldB RX2 q.1 q.2.1 q.2.2)) = true := by decide +kernel
theorem lk_X2_f1 : (([(18, 2, 1), (22, 2, 2), (25, 2, 3), (28, 2, 4), (97, 0, 0), (109, 0, 2), (40, 2, 8), (126, 0, 4), (147, 0, 3)] : List (Nat × Nat × Nat)).all (fun q => fldB RX2 q.1 q.2.1 q.2.2)) = true := by decide +kernel
theorem lk_X2_f : ∀ q ∈ lkX2.1, fldB RX2 q.1 q.2.1 q.2.2 = true := all_app (l1 := [(18, 2, 2001), (22, 2, 2002), (25, 2, 2003), (28, 2, 2004), (12, 2, 0), (31, 2, 2005), (34, 2, 2006), (37, 2, 2007), (37, 2, 7), (34, 2, 6), (31, 2, 5), (52, 0, 1)]) lk_X2_f0 (List.all_eq_true.mp lk_X2_f1)
theorem lk_X2_m0 : (([(44, 0, 0, 2), (48, 0, 36, 1), (55, 0, 35, 3), (59, 0, 44, 4), (63, 0, 6, 1), (67, 0, 45, 3), (71, 0, 46, 2), (75, 0, 47, 2), (78, 0, 48, 3), (81, 0, 49, 2), (84, 0, 50, 4), (87, 0, 51, 1)] : List (Nat × Nat × Nat × Nat)).all (fun q => lnkB RX2 q.1 q.2.1 q.2.2.1 q.2.2.2)) = true := by decide +kernel
theorem lk_X2_m1 : (([(90, 0, 9, 3), (94, 0, 38, 1), (106, 0, 10, 3), (112, 2, 97, 1), (116, 0, 37, 3), (120, 0, 13, 3), (123, 0, 40, 3), (129, 0, 41, 2), (132, 1, 194, 4), (138, 0, 42, 1), (141, 0, 1, 2), (144, 0, 11, 3)] : List (Nat × Nat × Nat × Nat)).all (fun q => lnkB RX2 q.1 q.2.1 q.2.2.1 q.2.2.2)) = true := by decide +kernel
theorem lk_X2_m2 : (([(150, 0, 15, 4), (154, 0, 18, 3), (158, 0, 19, 2), (162, 2, 98, 2), (166, 0, 17, 3)] : List (Nat × Nat × Nat × Nat)).all (fun q => lnkB RX2 q.1 q.2.1 q.2.2.1 q.2.2.2)) = true := by decide +kernel
theorem lk_X2_m : ∀ q ∈ lkX2.2.1, lnkB RX2 q.1 q.2.1 q.2.2.1 q.2.2.2 = true := all_app (l1 := [(44, 0, 0, 2), (48, 0, 36, 1), (55, 0, 35, 3), (59, 0, 44, 4), (63, 0, 6, 1), (67, 0, 45, 3), (71, 0, 46, 2), (75, 0, 47, 2), (78, 0, 48, 3), (81, 0, 49, 2), (84, 0, 50, 4), (87, 0, 51, 1)]) lk_X2_m0 (all_app (l1 := [(90, 0, 9, 3), (94, 0, 38, 1), (106, 0, 10, 3), (112, 2, 97, 1), (116, 0, 37, 3), (120, 0, 13, 3), (123, 0, 40, 3), (129, 0, 41, 2), (132, 1, 194, 4), (138, 0, 42, 1), (141, 0, 1, 2), (144, 0, 11, 3)]) lk_X2_m1 (List.all_eq_true.mp lk_X2_m2))
theorem lk_X2_c0 : (([(119, 1000000)] : List (Nat × Nat)).all (fun q => cstB RX2 q.1 q.2)) = true := by decide +kernel
theorem lk_X2_c : ∀ q ∈ lkX2.2.2.1, cstB RX2 q.1 q.2 = true := List.all_eq_true.mp lk_X2_c0
theorem lk_X2_l0 : (([] : List (Nat × Nat)).all (fun q => lngB RX2 q.1 q.2)) = true := by decide +kernel
theorem lk_X2_l : ∀ q ∈ lkX2.2.2.2.1, lngB RX2 q.1 q.2 = true := List.all_eq_true.mp lk_X2_l0
theorem lk_X2_a0 : (([100] : List Nat).all (fun q => acpB RX2 q)) = true := by decide +kernel
theorem lk_X2_a : ∀ q ∈ lkX2.2.2.2.2, acpB RX2 q = true := List.all_eq_true.mp lk_X2_a0
theorem lkG_X2 : lkG RX2 lkX2 := lkG_of lk_X2_f lk_X2_m lk_X2_c lk_X2_l lk_X2_a
theorem lk_X3_f0 : (([(12, 3, 0), (53, 0, 5), (62, 0, 3), (94, 0, 6), (94, 0, 2006), (100, 0, 1), (106, 0, 7), (109, 0, 0), (22, 3, 2), (164, 2, 0), (29, 3, 3), (177, 1, 2)] : List (Nat × Nat × Nat)).all (fun q => fldB RX3 q.1 q.2.1 q.2.2)) = true := by decide +kernel
theorem lk_X3_f1 : (([(177, 1, 2002), (187, 1, 5), (190, 1, 1), (193, 1, 2003), (199, 1, 4), (16, 3, 1), (37, 3, 1005), (37, 3, 5), (41, 3, 6), (33, 3, 4), (227, 2, 7), (230, 2, 6)] : List (Nat × Nat × Nat)).all (fun q => fldB RX3 q.1 q.2.1 q.2.2)) = true := by decide +kernel
theorem lk_X3_f2 : (([(41, 3, 2006)] : List (Nat × Nat × Nat)).all (fun q => fldB RX3 q.1 q.2.1 q.2.2)) = true := by decide +kernel
theorem lk_X3_f : ∀ q ∈ lkX3.1, fldB RX3 q.1 q.2.1 q.2.2 = true := all_app (l1 := [(12, 3, 0), (53, 0, 5), (62, 0, 3), (94, 0, 6), (94, 0, 2006), (100, 0, 1), (106, 0, 7), (109, 0, 0), (22, 3, 2), (164, 2, 0), (29, 3, 3), (177, 1, 2)]) lk_X3_f0 (all_app (l1 := [(177, 1, 2002), (187, 1, 5), (190, 1, 1), (193, 1, 2003), (199, 1, 4), (16, 3, 1), (37, 3, 1005), (37, 3, 5), (41, 3, 6), (33, 3, 4), (227, 2, 7), (230, 2, 6)]) lk_X3_f1 (List.all_eq_true.mp lk_X3_f2))
theorem lk_X3_m0 : (([(45, 0, 2, 2), (49, 0, 88, 2), (56, 0, 4, 2), (59, 0, 1, 2), (65, 0, 12, 2), (68, 0, 93, 2), (71, 0, 7, 2), (74, 1, 96, 1), (77, 0, 13, 3), (81, 0, 3, 2), (84, 0, 14, 3), (87, 0, 89, 5)] : List (Nat × Nat × Nat × Nat)).all (fun q => lnkB RX3 q.1 q.2.1 q.2.2.1 q.2.2.2)) = true := by decide +kernel
theorem lk_X3_m1 : (([(91, 0, 90, 2), (97, 1, 97, 1), (103, 0, 22, 1), (112, 0, 23, 1), (116, 0, 24, 1), (119, 0, 25, 1), (122, 0, 26, 1), (125, 0, 27, 1), (129, 1, 99, 1), (132, 0, 20, 2), (138, 1, 98, 2), (142, 0, 94, 2)] : List (Nat × Nat × Nat × Nat)).all (fun q => lnkB RX3 q.1 q.2.1 q.2.2.1 q.2.2.2)) = true := by decide +kernel
theorem lk_X3_m2 : (([(145, 0, 18, 3), (149, 0, 19, 2), (153, 0, 16, 3), (157, 1, 95, 1), (160, 0, 39, 3), (167, 1, 191, 1), (173, 0, 43, 3), (180, 0, 28, 2), (184, 0, 30, 1), (195, 0, 32, 1), (202, 0, 31, 1), (205, 0, 0, 2)] : List (Nat × Nat × Nat × Nat)).all (fun q => lnkB RX3 q.1 q.2.1 q.2.2.1 q.2.2.2)) = true := by decide +kernel
theorem lk_X3_m3 : (([(209, 0, 5, 1), (212, 0, 91, 5), (216, 0, 92, 3), (219, 0, 8, 3), (222, 0, 34, 5), (233, 0, 6, 1)] : List (Nat × Nat × Nat × Nat)).all (fun q => lnkB RX3 q.1 q.2.1 q.2.2.1 q.2.2.2)) = true := by decide +kernel
theorem lk_X3_m : ∀ q ∈ lkX3.2.1, lnkB RX3 q.1 q.2.1 q.2.2.1 q.2.2.2 = true := all_app (l1 := [(45, 0, 2, 2), (49, 0, 88, 2), (56, 0, 4, 2), (59, 0, 1, 2), (65, 0, 12, 2), (68, 0, 93, 2), (71, 0, 7, 2), (74, 1, 96, 1), (77, 0, 13, 3), (81, 0, 3, 2), (84, 0, 14, 3), (87, 0, 89, 5)]) lk_X3_m0 (all_app (l1 := [(91, 0, 90, 2), (97, 1, 97, 1), (103, 0, 22, 1), (112, 0, 23, 1), (116, 0, 24, 1), (119, 0, 25, 1), (122, 0, 26, 1), (125, 0, 27, 1), (129, 1, 99, 1), (132, 0, 20, 2), (138, 1, 98, 2), (142, 0, 94, 2)]) lk_X3_m1 (all_app (l1 := [(145, 0, 18, 3), (149, 0, 19, 2), (153, 0, 16, 3), (157, 1, 95, 1), (160, 0, 39, 3), (167, 1, 191, 1), (173, 0, 43, 3), (180, 0, 28, 2), (184, 0, 30, 1), (195, 0, 32, 1), (202, 0, 31, 1), (205, 0, 0, 2)]) lk_X3_m2 (List.all_eq_true.mp lk_X3_m3)))
theorem lk_X3_c0 : (([(226, 1000000)] : List (Nat × Nat)).all (fun q => cstB RX3 q.1 q.2)) = true := by decide +kernel
theorem lk_X3_c : ∀ q ∈ lkX3.2.2.1, cstB RX3 q.1 q.2 = true := List.all_eq_true.mp lk_X3_c0
theorem lk_X3_l0 : (([(136, 18446744073709551615)] : List (Nat × Nat)).all (fun q => lngB RX3 q.1 q.2)) = true := by decide +kernel
theorem lk_X3_l : ∀ q ∈ lkX3.2.2.2.1, lngB RX3 q.1 q.2 = true := List.all_eq_true.mp lk_X3_l0
theorem lk_X3_a0 : (([] : List Nat).all (fun q => acpB RX3 q)) = true := by decide +kernel
theorem lk_X3_a : ∀ q ∈ lkX3.2.2.2.2, acpB RX3 q = true := List.all_eq_true.mp lk_X3_a0
theorem lkG_X3 : lkG RX3 lkX3 := lkG_of lk_X3_f lk_X3_m lk_X3_c lk_X3_l lk_X3_a
theorem lk_X4_f0 : (([(19, 4, 4), (7, 4, 0), (22, 4, 5), (25, 4, 6), (78, 4, 9), (82, 4, 10), (85, 4, 7), (89, 4, 8), (78, 4, 1009), (85, 4, 2007), (82, 4, 1010), (28, 4, 12)] : List (Nat × Nat × Nat)).all (fun q => fldB RX4 q.1 q.2.1 q.2.2)) = true := by decide +kernel
theorem lk_X4_f1 : (([(89, 4, 2008), (13, 4, 1), (179, 4, 11), (179, 4, 2011), (226, 4, 15), (31, 4, 13), (226, 4, 2015), (229, 4, 17), (34, 4, 14), (235, 4, 16), (229, 4, 2017), (235, 4, 2016)] : List (Nat × Nat × Nat)).all (fun q => fldB RX4 q.1 q.2.1 q.2.2)) = true := by decide +kernel
theorem lk_X4_f2 : (([(16, 4, 2), (271, 4, 1003), (271, 4, 3)] : List (Nat × Nat × Nat)).all (fun q => fldB RX4 q.1 q.2.1 q.2.2)) = true := by decide +kernel
theorem lk_X4_f : ∀ q ∈ lkX4.1, fldB RX4 q.1 q.2.1 q.2.2 = true := all_app (l1 := [(19, 4, 4), (7, 4, 0), (22, 4, 5), (25, 4, 6), (78, 4, 9), (82, 4, 10), (85, 4, 7), (89, 4, 8), (78, 4, 1009), (85, 4, 2007), (82, 4, 1010), (28, 4, 12)]) lk_X4_f0 (all_app (l1 := [(89, 4, 2008), (13, 4, 1), (179, 4, 11), (179, 4, 2011), (226, 4, 15), (31, 4, 13), (226, 4, 2015), (229, 4, 17), (34, 4, 14), (235, 4, 16), (229, 4, 2017), (235, 4, 2016)]) lk_X4_f1 (List.all_eq_true.mp lk_X4_f2))
theorem lk_X4_m0 : (([(37, 1, 100, 3), (41, 1, 108, 2), (45, 0, 109, 3), (48, 0, 110, 4), (52, 0, 103, 2), (56, 0, 101, 2), (60, 1, 105, 1), (63, 0, 111, 3), (66, 0, 104, 2), (69, 0, 118, 2), (72, 0, 120, 2), (75, 0, 119, 1)] : List (Nat × Nat × Nat × Nat)).all (fun q => lnkB RX4 q.1 q.2.1 q.2.2.1 q.2.2.2)) = true := by decide +kernel
theorem lk_X4_m1 : (([(92, 0, 122, 1), (96, 0, 123, 3), (100, 0, 125, 6), (104, 0, 127, 1), (108, 0, 126, 3), (111, 0, 124, 3), (114, 0, 128, 3), (117, 0, 129, 2), (121, 0, 133, 2), (124, 0, 131, 2), (127, 0, 132, 1), (130, 0, 134, 3)] : List (Nat × Nat × Nat × Nat)).all (fun q => lnkB RX4 q.1 q.2.1 q.2.2.1 q.2.2.2)) = true := by decide +kernel
theorem lk_X4_m2 : (([(133, 0, 130, 4), (137, 0, 140, 4), (140, 0, 142, 3), (144, 0, 143, 2), (147, 0, 135, 3), (150, 0, 136, 2), (153, 0, 137, 2), (156, 0, 138, 3), (159, 0, 139, 2), (162, 0, 141, 4), (165, 0, 144, 1), (168, 1, 102, 2)] : List (Nat × Nat × Nat × Nat)).all (fun q => lnkB RX4 q.1 q.2.1 q.2.2.1 q.2.2.2)) = true := by decide +kernel
theorem lk_X4_m3 : (([(172, 0, 145, 6), (175, 0, 146, 5), (182, 1, 148, 1), (185, 0, 121, 1), (188, 0, 147, 5), (192, 1, 106, 1), (195, 0, 117, 3), (198, 1, 107, 1), (203, 0, 162, 2), (206, 0, 163, 2), (212, 0, 167, 1), (215, 0, 170, 4)] : List (Nat × Nat × Nat × Nat)).all (fun q => lnkB RX4 q.1 q.2.1 q.2.2.1 q.2.2.2)) = true := by decide +kernel
theorem lk_X4_m4 : (([(219, 0, 172, 6), (223, 0, 176, 3), (232, 1, 181, 1), (238, 0, 182, 2), (241, 0, 183, 1), (244, 0, 149, 4), (247, 0, 150, 2), (250, 0, 151, 2), (253, 0, 152, 2), (256, 0, 153, 3), (259, 0, 154, 2), (262, 0, 156, 1)] : List (Nat × Nat × Nat × Nat)).all (fun q => lnkB RX4 q.1 q.2.1 q.2.2.1 q.2.2.2)) = true := by decide +kernel
theorem lk_X4_m5 : (([(265, 0, 184, 1), (268, 0, 185, 2)] : List (Nat × Nat × Nat × Nat)).all (fun q => lnkB RX4 q.1 q.2.1 q.2.2.1 q.2.2.2)) = true := by decide +kernel
theorem lk_X4_m : ∀ q ∈ lkX4.2.1, lnkB RX4 q.1 q.2.1 q.2.2.1 q.2.2.2 = true := all_app (l1 := [(37, 1, 100, 3), (41, 1, 108, 2), (45, 0, 109, 3), (48, 0, 110, 4), (52, 0, 103, 2), (56, 0, 101, 2), (60, 1, 105, 1), (63, 0, 111, 3), (66, 0, 104, 2), (69, 0, 118, 2), (72, 0, 120, 2), (75, 0, 119, 1)]) lk_X4_m0 (all_app (l1 := [(92, 0, 122, 1), (96, 0, 123, 3), (100, 0, 125, 6), (104, 0, 127, 1), (108, 0, 126, 3), (111, 0, 124, 3), (114, 0, 128, 3), (117, 0, 129, 2), (121, 0, 133, 2), (124, 0, 131, 2), (127, 0, 132, 1), (130, 0, 134, 3)]) lk_X4_m1 (all_app (l1 := [(133, 0, 130, 4), (137, 0, 140, 4), (140, 0, 142, 3), (144, 0, 143, 2), (147, 0, 135, 3), (150, 0, 136, 2), (153, 0, 137, 2), (156, 0, 138, 3), (159, 0, 139, 2), (162, 0, 141, 4), (165, 0, 144, 1), (168, 1, 102, 2)]) lk_X4_m2 (all_app (l1 := [(172, 0, 145, 6), (175, 0, 146, 5), (182, 1, 148, 1), (185, 0, 121, 1), (188, 0, 147, 5), (192, 1, 106, 1), (195, 0, 117, 3), (198, 1, 107, 1), (203, 0, 162, 2), (206, 0, 163, 2), (212, 0, 167, 1), (215, 0, 170, 4)]) lk_X4_m3 (all_app (l1 := [(219, 0, 172, 6), (223, 0, 176, 3), (232, 1, 181, 1), (238, 0, 182, 2), (241, 0, 183, 1), (244, 0, 149, 4), (247, 0, 150, 2), (250, 0, 151, 2), (253, 0, 152, 2), (256, 0, 153, 3), (259, 0, 154, 2), (262, 0, 156, 1)]) lk_X4_m4 (List.all_eq_true.mp lk_X4_m5)))))
theorem lk_X4_c0 : (([] : List (Nat × Nat)).all (fun q => cstB RX4 q.1 q.2)) = true := by decide +kernel
theorem lk_X4_c : ∀ q ∈ lkX4.2.2.1, cstB RX4 q.1 q.2 = true := List.all_eq_true.mp lk_X4_c0
theorem lk_X4_l0 : (([(201, 18446744073709551614), (210, 18446744073709551615)] : List (Nat × Nat)).all (fun q => lngB RX4 q.1 q.2)) = true := by decide +kernel
theorem lk_X4_l : ∀ q ∈ lkX4.2.2.2.1, lngB RX4 q.1 q.2 = true := List.all_eq_true.mp lk_X4_l0
theorem lk_X4_a0 : (([] : List Nat).all (fun q => acpB RX4 q)) = true := by decide +kernel
theorem lk_X4_a : ∀ q ∈ lkX4.2.2.2.2, acpB RX4 q = true := List.all_eq_true.mp lk_X4_a0
theorem lkG_X4 : lkG RX4 lkX4 := lkG_of lk_X4_f lk_X4_m lk_X4_c lk_X4_l lk_X4_a
theorem lk_J13_f0 : (([] : List (Nat × Nat × Nat)).all (fun q => fldB RJ13 q.1 q.2.1 q.2.2)) = true := by decide +kernel
theorem lk_J13_f : ∀ q ∈ lkJ13.1, fldB RJ13 q.1 q.2.1 q.2.2 = true := List.all_eq_true.mp lk_J13_f0
theorem lk_J13_m0 : (([] : List (Nat × Nat × Nat × Nat)).all (fun q => lnkB RJ13 q.1 q.2.1 q.2.2.1 q.2.2.2)) = true := by decide +kernel
theorem lk_J13_m : ∀ q ∈ lkJ13.2.1, lnkB RJ13 q.1 q.2.1 q.2.2.1 q.2.2.2 = true := List.all_eq_true.mp lk_J13_m0
theorem lk_J13_c0 : (([] : List (Nat × Nat)).all (fun q => cstB RJ13 q.1 q.2)) = true := by decide +kernel
theorem lk_J13_c : ∀ q ∈ lkJ13.2.2.1, cstB RJ13 q.1 q.2 = true := List.all_eq_true.mp lk_J13_c0
theorem lk_J13_l0 : (([(314, 6148914691236517205), (316, 3689348814741910323), (318, 1085102592571150095)] : List (Nat × Nat)).all (fun q => lngB RJ13 q.1 q.2)) = true := by decide +kernel
theorem lk_J13_l : ∀ q ∈ lkJ13.2.2.2.1, lngB RJ13 q.1 q.2 = true := List.all_eq_true.mp lk_J13_l0
theorem lk_J13_a0 : (([] : List Nat).all (fun q => acpB RJ13 q)) = true := by decide +kernel
theorem lk_J13_a : ∀ q ∈ lkJ13.2.2.2.2, acpB RJ13 q = true := List.all_eq_true.mp lk_J13_a0
theorem lkG_J13 : lkG RJ13 lkJ13 := lkG_of lk_J13_f lk_J13_m lk_J13_c lk_J13_l lk_J13_a
theorem lk_J7_f0 : (([] : List (Nat × Nat × Nat)).all (fun q => fldB RJ7 q.1 q.2.1 q.2.2)) = true := by decide +kernel
theorem lk_J7_f : ∀ q ∈ lkJ7.1, fldB RJ7 q.1 q.2.1 q.2.2 = true := List.all_eq_true.mp lk_J7_f0
theorem lk_J7_m0 : (([(13, 1, 192, 3)] : List (Nat × Nat × Nat × Nat)).all (fun q => lnkB RJ7 q.1 q.2.1 q.2.2.1 q.2.2.2)) = true := by decide +kernel
theorem lk_J7_m : ∀ q ∈ lkJ7.2.1, lnkB RJ7 q.1 q.2.1 q.2.2.1 q.2.2.2 = true := List.all_eq_true.mp lk_J7_m0
theorem lk_J7_c0 : (([] : List (Nat × Nat)).all (fun q => cstB RJ7 q.1 q.2)) = true := by decide +kernel
theorem lk_J7_c : ∀ q ∈ lkJ7.2.2.1, cstB RJ7 q.1 q.2 = true := List.all_eq_true.mp lk_J7_c0
theorem lk_J7_l0 : (([] : List (Nat × Nat)).all (fun q => lngB RJ7 q.1 q.2)) = true := by decide +kernel
theorem lk_J7_l : ∀ q ∈ lkJ7.2.2.2.1, lngB RJ7 q.1 q.2 = true := List.all_eq_true.mp lk_J7_l0
theorem lk_J7_a0 : (([] : List Nat).all (fun q => acpB RJ7 q)) = true := by decide +kernel
theorem lk_J7_a : ∀ q ∈ lkJ7.2.2.2.2, acpB RJ7 q = true := List.all_eq_true.mp lk_J7_a0
theorem lkG_J7 : lkG RJ7 lkJ7 := lkG_of lk_J7_f lk_J7_m lk_J7_c lk_J7_l lk_J7_a
theorem ym_0 : metB 0 = true := by decide +kernel
theorem ym_1 : metB 1 = true := by decide +kernel
theorem ym_2 : metB 2 = true := by decide +kernel
theorem ym_3 : metB 3 = true := by decide +kernel
theorem ym_4 : metB 4 = true := by decide +kernel
theorem ym_5 : metB 5 = true := by decide +kernel
theorem ym_6 : metB 6 = true := by decide +kernel
theorem ym_7 : metB 7 = true := by decide +kernel
theorem ym_8 : metB 8 = true := by decide +kernel
theorem ym_9 : metB 9 = true := by decide +kernel
theorem ym_10 : metB 10 = true := by decide +kernel
theorem ym_11 : metB 11 = true := by decide +kernel
theorem ym_12 : metB 12 = true := by decide +kernel
theorem ym_13 : metB 13 = true := by decide +kernel
theorem ym_14 : metB 14 = true := by decide +kernel
theorem ym_15 : metB 15 = true := by decide +kernel
theorem ym_16 : metB 16 = true := by decide +kernel
theorem ym_17 : metB 17 = true := by decide +kernel
theorem ym_18 : metB 18 = true := by decide +kernel
theorem ym_19 : metB 19 = true := by decide +kernel
theorem ym_20 : metB 20 = true := by decide +kernel
theorem ym_21 : metB 21 = true := by decide +kernel
theorem ym_22 : metB 22 = true := by decide +kernel
theorem ym_23 : metB 23 = true := by decide +kernel
theorem ym_24 : metB 24 = true := by decide +kernel
theorem ym_25 : metB 25 = true := by decide +kernel
theorem ym_26 : metB 26 = true := by decide +kernel
theorem ym_27 : metB 27 = true := by decide +kernel
theorem ym_28 : metB 28 = true := by decide +kernel
theorem ym_29 : metB 29 = true := by decide +kernel
theorem ym_30 : metB 30 = true := by decide +kernel
theorem ym_31 : metB 31 = true := by decide +kernel
theorem ym_32 : metB 32 = true := by decide +kernel
theorem ym_33 : metB 33 = true := by decide +kernel
theorem ym_34 : metB 34 = true := by decide +kernel
theorem ym_35 : metB 35 = true := by decide +kernel
theorem ym_36 : metB 36 = true := by decide +kernel
theorem ym_37 : metB 37 = true := by decide +kernel
theorem ym_38 : metB 38 = true := by decide +kernel
theorem ym_39 : metB 39 = true := by decide +kernel
theorem ym_40 : metB 40 = true := by decide +kernel
theorem ym_41 : metB 41 = true := by decide +kernel
theorem ym_42 : metB 42 = true := by decide +kernel
theorem ym_43 : metB 43 = true := by decide +kernel
theorem ym_44 : metB 44 = true := by decide +kernel
theorem ym_45 : metB 45 = true := by decide +kernel
theorem ym_46 : metB 46 = true := by decide +kernel
theorem ym_47 : metB 47 = true := by decide +kernel
theorem ym_48 : metB 48 = true := by decide +kernel
theorem ym_49 : metB 49 = true := by decide +kernel
theorem ym_50 : metB 50 = true := by decide +kernel
theorem ym_51 : metB 51 = true := by decide +kernel
theorem ym_52 : metB 52 = true := by decide +kernel
theorem ym_53 : metB 53 = true := by decide +kernel
theorem ym_54 : metB 54 = true := by decide +kernel
theorem ym_55 : metB 55 = true := by decide +kernel
theorem ym_56 : metB 56 = true := by decide +kernel
theorem ym_57 : metB 57 = true := by decide +kernel
theorem ym_58 : metB 58 = true := by decide +kernel
theorem ym_59 : metB 59 = true := by decide +kernel
theorem ym_60 : metB 60 = true := by decide +kernel
theorem ym_61 : metB 61 = true := by decide +kernel
theorem ym_62 : metB 62 = true := by decide +kernel
theorem ym_63 : metB 63 = true := by decide +kernel
theorem ym_64 : metB 64 = true := by decide +kernel
theorem ym_65 : metB 65 = true := by decide +kernel
theorem ym_66 : metB 66 = true := by decide +kernel
theorem ym_67 : metB 67 = true := by decide +kernel
theorem ym_68 : metB 68 = true := by decide +kernel
theorem ym_69 : metB 69 = true := by decide +kernel
theorem ym_70 : metB 70 = true := by decide +kernel
theorem ym_71 : metB 71 = true := by decide +kernel
theorem ym_72 : metB 72 = true := by decide +kernel
theorem ym_73 : metB 73 = true := by decide +kernel
theorem ym_74 : metB 74 = true := by decide +kernel
theorem ym_75 : metB 75 = true := by decide +kernel
theorem ym_76 : metB 76 = true := by decide +kernel
theorem ym_77 : metB 77 = true := by decide +kernel
theorem ym_78 : metB 78 = true := by decide +kernel
theorem ym_79 : metB 79 = true := by decide +kernel
theorem ym_80 : metB 80 = true := by decide +kernel
theorem ym_81 : metB 81 = true := by decide +kernel
theorem ym_82 : metB 82 = true := by decide +kernel
theorem ym_83 : metB 83 = true := by decide +kernel
theorem ym_84 : metB 84 = true := by decide +kernel
theorem ym_85 : metB 85 = true := by decide +kernel
theorem ym_86 : metB 86 = true := by decide +kernel
theorem ym_87 : metB 87 = true := by decide +kernel
theorem ym_88 : metB 88 = true := by decide +kernel
theorem ym_89 : metB 89 = true := by decide +kernel
theorem ym_90 : metB 90 = true := by decide +kernel
theorem ym_91 : metB 91 = true := by decide +kernel
theorem ym_92 : metB 92 = true := by decide +kernel
theorem ym_93 : metB 93 = true := by decide +kernel
theorem ym_94 : metB 94 = true := by decide +kernel
theorem ym_95 : metB 95 = true := by decide +kernel
theorem ym_96 : metB 96 = true := by decide +kernel
theorem ym_97 : metB 97 = true := by decide +kernel
theorem ym_98 : metB 98 = true := by decide +kernel
theorem ym_99 : metB 99 = true := by decide +kernel
theorem ym_100 : metB 100 = true := by decide +kernel
theorem ym_101 : metB 101 = true := by decide +kernel
theorem ym_102 : metB 102 = true := by decide +kernel
theorem ym_103 : metB 103 = true := by decide +kernel
theorem ym_104 : metB 104 = true := by decide +kernel
theorem ym_105 : metB 105 = true := by decide +kernel
theorem ym_106 : metB 106 = true := by decide +kernel
theorem ym_107 : metB 107 = true := by decide +kernel
theorem ym_108 : metB 108 = true := by decide +kernel
theorem ym_109 : metB 109 = true := by decide +kernel
theorem ym_110 : metB 110 = true := by decide +kernel
theorem ym_111 : metB 111 = true := by decide +kernel
theorem ym_112 : metB 112 = true := by decide +kernel
theorem ym_113 : metB 113 = true := by decide +kernel
theorem ym_114 : metB 114 = true := by decide +kernel
theorem ym_115 : metB 115 = true := by decide +kernel
theorem ym_116 : metB 116 = true := by decide +kernel
theorem ym_117 : metB 117 = true := by decide +kernel
theorem ym_118 : metB 118 = true := by decide +kernel
theorem ym_119 : metB 119 = true := by decide +kernel
theorem ym_120 : metB 120 = true := by decide +kernel
theorem ym_121 : metB 121 = true := by decide +kernel
theorem ym_122 : metB 122 = true := by decide +kernel
theorem ym_123 : metB 123 = true := by decide +kernel
theorem ym_124 : metB 124 = true := by decide +kernel
theorem ym_125 : metB 125 = true := by decide +kernel
theorem ym_126 : metB 126 = true := by decide +kernel
theorem ym_127 : metB 127 = true := by decide +kernel
theorem ym_128 : metB 128 = true := by decide +kernel
theorem ym_129 : metB 129 = true := by decide +kernel
theorem ym_130 : metB 130 = true := by decide +kernel
theorem ym_131 : metB 131 = true := by decide +kernel
theorem ym_132 : metB 132 = true := by decide +kernel
theorem ym_133 : metB 133 = true := by decide +kernel
theorem ym_134 : metB 134 = true := by decide +kernel
theorem ym_135 : metB 135 = true := by decide +kernel
theorem ym_136 : metB 136 = true := by decide +kernel
theorem ym_137 : metB 137 = true := by decide +kernel
theorem ym_138 : metB 138 = true := by decide +kernel
theorem ym_139 : metB 139 = true := by decide +kernel
theorem ym_140 : metB 140 = true := by decide +kernel
theorem ym_141 : metB 141 = true := by decide +kernel
theorem ym_142 : metB 142 = true := by decide +kernel
theorem ym_143 : metB 143 = true := by decide +kernel
theorem ym_144 : metB 144 = true := by decide +kernel
theorem ym_145 : metB 145 = true := by decide +kernel
theorem ym_146 : metB 146 = true := by decide +kernel
theorem ym_147 : metB 147 = true := by decide +kernel
theorem ym_148 : metB 148 = true := by decide +kernel
theorem ym_149 : metB 149 = true := by decide +kernel
theorem ym_150 : metB 150 = true := by decide +kernel
theorem ym_151 : metB 151 = true := by decide +kernel
theorem ym_152 : metB 152 = true := by decide +kernel
theorem ym_153 : metB 153 = true := by decide +kernel
theorem ym_154 : metB 154 = true := by decide +kernel
theorem ym_155 : metB 155 = true := by decide +kernel
theorem ym_156 : metB 156 = true := by decide +kernel
theorem ym_157 : metB 157 = true := by decide +kernel
theorem ym_158 : metB 158 = true := by decide +kernel
theorem ym_159 : metB 159 = true := by decide +kernel
theorem ym_160 : metB 160 = true := by decide +kernel
theorem ym_161 : metB 161 = true := by decide +kernel
theorem ym_162 : metB 162 = true := by decide +kernel
theorem ym_163 : metB 163 = true := by decide +kernel
theorem ym_164 : metB 164 = true := by decide +kernel
theorem ym_165 : metB 165 = true := by decide +kernel
theorem ym_166 : metB 166 = true := by decide +kernel
theorem ym_167 : metB 167 = true := by decide +kernel
theorem ym_168 : metB 168 = true := by decide +kernel
theorem ym_169 : metB 169 = true := by decide +kernel
theorem ym_170 : metB 170 = true := by decide +kernel
theorem ym_171 : metB 171 = true := by decide +kernel
theorem ym_172 : metB 172 = true := by decide +kernel
theorem ym_173 : metB 173 = true := by decide +kernel
theorem ym_174 : metB 174 = true := by decide +kernel
theorem ym_175 : metB 175 = true := by decide +kernel
theorem ym_176 : metB 176 = true := by decide +kernel
theorem ym_177 : metB 177 = true := by decide +kernel
theorem ym_178 : metB 178 = true := by decide +kernel
theorem ym_179 : metB 179 = true := by decide +kernel
theorem ym_180 : metB 180 = true := by decide +kernel
theorem ym_181 : metB 181 = true := by decide +kernel
theorem ym_182 : metB 182 = true := by decide +kernel
theorem ym_183 : metB 183 = true := by decide +kernel
theorem ym_184 : metB 184 = true := by decide +kernel
theorem ym_185 : metB 185 = true := by decide +kernel
theorem ym_186 : metB 186 = true := by decide +kernel
theorem ym_187 : metB 187 = true := by decide +kernel
theorem ym_188 : metB 188 = true := by decide +kernel
theorem ym_189 : metB 189 = true := by decide +kernel
theorem ym_190 : metB 190 = true := by decide +kernel
theorem ym_191 : metB 191 = true := by decide +kernel
theorem ym_192 : metB 192 = true := by decide +kernel
theorem ym_193 : metB 193 = true := by decide +kernel
theorem ym_194 : metB 194 = true := by decide +kernel
theorem yc_0 : okC lkX0 (mth 0).2.2.2.2.1 (mth 0).2.1 (mth 0).2.2.1 (mth 0).2.2.2.1 (mth 0).2.2.2.2.2.2 = true := by decide +kernel
theorem yc_1 : okC lkX0 (mth 1).2.2.2.2.1 (mth 1).2.1 (mth 1).2.2.1 (mth 1).2.2.2.1 (mth 1).2.2.2.2.2.2 = true := by decide +kernel
theorem yc_2 : okC lkX0 (mth 2).2.2.2.2.1 (mth 2).2.1 (mth 2).2.2.1 (mth 2).2.2.2.1 (mth 2).2.2.2.2.2.2 = true := by decide +kernel
theorem yc_3 : okC lkX0 (mth 3).2.2.2.2.1 (mth 3).2.1 (mth 3).2.2.1 (mth 3).2.2.2.1 (mth 3).2.2.2.2.2.2 = true := by decide +kernel
theorem yc_4 : okC lkX0 (mth 4).2.2.2.2.1 (mth 4).2.1 (mth 4).2.2.1 (mth 4).2.2.2.1 (mth 4).2.2.2.2.2.2 = true := by decide +kernel
theorem yc_5 : okC lkX0 (mth 5).2.2.2.2.1 (mth 5).2.1 (mth 5).2.2.1 (mth 5).2.2.2.1 (mth 5).2.2.2.2.2.2 = true := by decide +kernel
theorem yc_6 : okC lkX0 (mth 6).2.2.2.2.1 (mth 6).2.1 (mth 6).2.2.1 (mth 6).2.2.2.1 (mth 6).2.2.2.2.2.2 = true := by decide +kernel
theorem yc_7 : okC lkX0 (mth 7).2.2.2.2.1 (mth 7).2.1 (mth 7).2.2.1 (mth 7).2.2.2.1 (mth 7).2.2.2.2.2.2 = true := by decide +kernel
theorem yc_8 : okC lkX0 (mth 8).2.2.2.2.1 (mth 8).2.1 (mth 8).2.2.1 (mth 8).2.2.2.1 (mth 8).2.2.2.2.2.2 = true := by decide +kernel
theorem yc_9 : okC lkX0 (mth 9).2.2.2.2.1 (mth 9).2.1 (mth 9).2.2.1 (mth 9).2.2.2.1 (mth 9).2.2.2.2.2.2 = true := by decide +kernel
theorem yc_10 : okC lkX0 (mth 10).2.2.2.2.1 (mth 10).2.1 (mth 10).2.2.1 (mth 10).2.2.2.1 (mth 10).2.2.2.2.2.2 = true := by decide +kernel
theorem yc_11 : okC lkX0 (mth 11).2.2.2.2.1 (mth 11).2.1 (mth 11).2.2.1 (mth 11).2.2.2.1 (mth 11).2.2.2.2.2.2 = true := by decide +kernel
theorem yc_12 : okC lkX0 (mth 12).2.2.2.2.1 (mth 12).2.1 (mth 12).2.2.1 (mth 12).2.2.2.1 (mth 12).2.2.2.2.2.2 = true := by decide +kernel
theorem yc_13 : okC lkX0 (mth 13).2.2.2.2.1 (mth 13).2.1 (mth 13).2.2.1 (mth 13).2.2.2.1 (mth 13).2.2.2.2.2.2 = true := by decide +kernel
theorem yc_14 : okC lkX0 (mth 14).2.2.2.2.1 (mth 14).2.1 (mth 14).2.2.1 (mth 14).2.2.2.1 (mth 14).2.2.2.2.2.2 = true := by decide +kernel
theorem yc_15 : okC lkX0 (mth 15).2.2.2.2.1 (mth 15).2.1 (mth 15).2.2.1 (mth 15).2.2.2.1 (mth 15).2.2.2.2.2.2 = true := by decide +kernel
theorem yc_16 : okC lkX0 (mth 16).2.2.2.2.1 (mth 16).2.1 (mth 16).2.2.1 (mth 16).2.2.2.1 (mth 16).2.2.2.2.2.2 = true := by decide +kernel
theorem yc_17 : okC lkX0 (mth 17).2.2.2.2.1 (mth 17).2.1 (mth 17).2.2.1 (mth 17).2.2.2.1 (mth 17).2.2.2.2.2.2 = true := by decide +kernel
theorem yc_18 : okC lkX0 (mth 18).2.2.2.2.1 (mth 18).2.1 (mth 18).2.2.1 (mth 18).2.2.2.1 (mth 18).2.2.2.2.2.2 = true := by decide +kernel
theorem yc_19 : okC lkX0 (mth 19).2.2.2.2.1 (mth 19).2.1 (mth 19).2.2.1 (mth 19).2.2.2.1 (mth 19).2.2.2.2.2.2 = true := by decide +kernel
theorem yc_20 : okC lkX0 (mth 20).2.2.2.2.1 (mth 20).2.1 (mth 20).2.2.1 (mth 20).2.2.2.1 (mth 20).2.2.2.2.2.2 = true := by decide +kernel
theorem yc_21 : okC lkX0 (mth 21).2.2.2.2.1 (mth 21).2.1 (mth 21).2.2.1 (mth 21).2.2.2.1 (mth 21).2.2.2.2.2.2 = true := by decide +kernel
theorem yc_22 : okC lkX0 (mth 22).2.2.2.2.1 (mth 22).2.1 (mth 22).2.2.1 (mth 22).2.2.2.1 (mth 22).2.2.2.2.2.2 = true := by decide +kernel
theorem yc_23 : okC lkX0 (mth 23).2.2.2.2.1 (mth 23).2.1 (mth 23).2.2.1 (mth 23).2.2.2.1 (mth 23).2.2.2.2.2.2 = true := by decide +kernel
theorem yc_24 : okC lkX0 (mth 24).2.2.2.2.1 (mth 24).2.1 (mth 24).2.2.1 (mth 24).2.2.2.1 (mth 24).2.2.2.2.2.2 = true := by decide +kernel
theorem yc_25 : okC lkX0 (mth 25).2.2.2.2.1 (mth 25).2.1 (mth 25).2.2.1 (mth 25).2.2.2.1 (mth 25).2.2.2.2.2.2 = true := by decide +kernel
theorem yc_26 : okC lkX0 (mth 26).2.2.2.2.1 (mth 26).2.1 (mth 26).2.2.1 (mth 26).2.2.2.1 (mth 26).2.2.2.2.2.2 = true := by decide +kernel
theorem yc_27 : okC lkX0 (mth 27).2.2.2.2.1 (mth 27).2.1 (mth 27).2.2.1 (mth 27).2.2.2.1 (mth 27).2.2.2.2.2.2 = true := by decide +kernel
theorem yc_28 : okC lkX1 (mth 28).2.2.2.2.1 (mth 28).2.1 (mth 28).2.2.1 (mth 28).2.2.2.1 (mth 28).2.2.2.2.2.2 = true := by decide +kernel
theorem yc_29 : okC lkX1 (mth 29).2.2.2.2.1 (mth 29).2.1 (mth 29).2.2.1 (mth 29).2.2.2.1 (mth 29).2.2.2.2.2.2 = true := by decide +kernel
theorem yc_30 : okC lkX1 (mth 30).2.2.2.2.1 (mth 30).2.1 (mth 30).2.2.1 (mth 30).2.2.2.1 (mth 30).2.2.2.2.2.2 = true := by decide +kernel
theorem yc_31 : okC lkX1 (mth 31).2.2.2.2.1 (mth 31).2.1 (mth 31).2.2.1 (mth 31).2.2.2.1 (mth 31).2.2.2.2.2.2 = true := by decide +kernel
theorem yc_32 : okC lkX1 (mth 32).2.2.2.2.1 (mth 32).2.1 (mth 32).2.2.1 (mth 32).2.2.2.1 (mth 32).2.2.2.2.2.2 = true := by decide +kernel
theorem yc_33 : okC lkX1 (mth 33).2.2.2.2.1 (mth 33).2.1 (mth 33).2.2.1 (mth 33).2.2.2.1 (mth 33).2.2.2.2.2.2 = true := by decide +kernel
theorem yc_34 : okC lkX2 (mth 34).2.2.2.2.1 (mth 34).2.1 (mth 34).2.2.1 (mth 34).2.2.2.1 (mth 34).2.2.2.2.2.2 = true := by decide +kernel
theorem yc_35 : okC lkX2 (mth 35).2.2.2.2.1 (mth 35).2.1 (mth 35).2.2.1 (mth 35).2.2.2.1 (mth 35).2.2.2.2.2.2 = true := by decide +kernel
theorem yc_36 : okC lkX2 (mth 36).2.2.2.2.1 (mth 36).2.1 (mth 36).2.2.1 (mth 36).2.2.2.1 (mth 36).2.2.2.2.2.2 = true := by decide +kernel
theorem yc_37 : okC lkX2 (mth 37).2.2.2.2.1 (mth 37).2.1 (mth 37).2.2.1 (mth 37).2.2.2.1 (mth 37).2.2.2.2.2.2 = true := by decide +kernel
theorem yc_38 : okC lkX2 (mth 38).2.2.2.2.1 (mth 38).2.1 (mth 38).2.2.1 (mth 38).2.2.2.1 (mth 38).2.2.2.2.2.2 = true := by decide +kernel
theorem yc_39 : okC lkX2 (mth 39).2.2.2.2.1 (mth 39).2.1 (mth 39).2.2.1 (mth 39).2.2.2.1 (mth 39).2.2.2.2.2.2 = true := by decide +kernel
theorem yc_40 : okC lkX2 (mth 40).2.2.2.2.1 (mth 40).2.1 (mth 40).2.2.1 (mth 40).2.2.2.1 (mth 40).2.2.2.2.2.2 = true := by decide +kernel
theorem yc_41 : okC lkX2 (mth 41).2.2.2.2.1 (mth 41).2.1 (mth 41).2.2.1 (mth 41).2.2.2.1 (mth 41).2.2.2.2.2.2 = true := by decide +kernel
theorem yc_42 : okC lkX2 (mth 42).2.2.2.2.1 (mth 42).2.1 (mth 42).2.2.1 (mth 42).2.2.2.1 (mth 42).2.2.2.2.2.2 = true := by decide +kernel
theorem yc_43 : okC lkX2 (mth 43).2.2.2.2.1 (mth 43).2.1 (mth 43).2.2.1 (mth 43).2.2.2.1 (mth 43).2.2.2.2.2.2 = true := by decide +kernel
theorem yc_44 : okC lkX2 (mth 44).2.2.2.2.1 (mth 44).2.1 (mth 44).2.2.1 (mth 44).2.2.2.1 (mth 44).2.2.2.2.2.2 = true := by decide +kernel
theorem yc_45 : okC lkX2 (mth 45).2.2.2.2.1 (mth 45).2.1 (mth 45).2.2.1 (mth 45).2.2.2.1 (mth 45).2.2.2.2.2.2 = true := by decide +kernel
theorem yc_46 : okC lkX2 (mth 46).2.2.2.2.1 (mth 46).2.1 (mth 46).2.2.1 (mth 46).2.2.2.1 (mth 46).2.2.2.2.2.2 = true := by decide +kernel
theorem yc_47 : okC lkX2 (mth 47).2.2.2.2.1 (mth 47).2.1 (mth 47).2.2.1 (mth 47).2.2.2.1 (mth 47).2.2.2.2.2.2 = true := by decide +kernel
theorem yc_48 : okC lkX2 (mth 48).2.2.2.2.1 (mth 48).2.1 (mth 48).2.2.1 (mth 48).2.2.2.1 (mth 48).2.2.2.2.2.2 = true := by decide +kernel
theorem yc_49 : okC lkX2 (mth 49).2.2.2.2.1 (mth 49).2.1 (mth 49).2.2.1 (mth 49).2.2.2.1 (mth 49).2.2.2.2.2.2 = true := by decide +kernel
theorem yc_50 : okC lkX2 (mth 50).2.2.2.2.1 (mth 50).2.1 (mth 50).2.2.1 (mth 50).2.2.2.1 (mth 50).2.2.2.2.2.2 = true := by decide +kernel
theorem yc_51 : okC lkX2 (mth 51).2.2.2.2.1 (mth 51).2.1 (mth 51).2.2.1 (mth 51).2.2.2.1 (mth 51).2.2.2.2.2.2 = true := by decide +kernel
theorem yc_52 : okC lkX3 (mth 52).2.2.2.2.1 (mth 52).2.1 (mth 52).2.2.1 (mth 52).2.2.2.1 (mth 52).2.2.2.2.2.2 = true := by decide +kernel
theorem yc_53 : okC lkX3 (mth 53).2.2.2.2.1 (mth 53).2.1 (mth 53).2.2.1 (mth 53).2.2.2.1 (mth 53).2.2.2.2.2.2 = true := by decide +kernel
theorem yc_54 : okC lkX3 (mth 54).2.2.2.2.1 (mth 54).2.1 (mth 54).2.2.1 (mth 54).2.2.2.1 (mth 54).2.2.2.2.2.2 = true := by decide +kernel
theorem yc_55 : okC lkX3 (mth 55).2.2.2.2.1 (mth 55).2.1 (mth 55).2.2.1 (mth 55).2.2.2.1 (mth 55).2.2.2.2.2.2 = true := by decide +kernel
theorem yc_56 : okC lkX3 (mth 56).2.2.2.2.1 (mth 56).2.1 (mth 56).2.2.1 (mth 56).2.2.2.1 (mth 56).2.2.2.2.2.2 = true := by decide +kernel
theorem yc_57 : okC lkX3 (mth 57).2.2.2.2.1 (mth 57).2.1 (mth 57).2.2.1 (mth 57).2.2.2.1 (mth 57).2.2.2.2.2.2 = true := by decide +kernel
theorem yc_58 : okC lkX3 (mth 58).2.2.2.2.1 (mth 58).2.1 (mth 58).2.2.1 (mth 58).2.2.2.1 (mth 58).2.2.2.2.2.2 = true := by decide +kernel
theorem yc_59 : okC lkX3 (mth 59).2.2.2.2.1 (mth 59).2.1 (mth 59).2.2.1 (mth 59).2.2.2.1 (mth 59).2.2.2.2.2.2 = true := by decide +kernel
theorem yc_60 : okC lkX3 (mth 60).2.2.2.2.1 (mth 60).2.1 (mth 60).2.2.1 (mth 60).2.2.2.1 (mth 60).2.2.2.2.2.2 = true := by decide +kernel
theorem yc_61 : okC lkX3 (mth 61).2.2.2.2.1 (mth 61).2.1 (mth 61).2.2.1 (mth 61).2.2.2.1 (mth 61).2.2.2.2.2.2 = true := by decide +kernel
theorem yc_62 : okC lkX3 (mth 62).2.2.2.2.1 (mth 62).2.1 (mth 62).2.2.1 (mth 62).2.2.2.1 (mth 62).2.2.2.2.2.2 = true := by decide +kernel
theorem yc_63 : okC lkX3 (mth 63).2.2.2.2.1 (mth 63).2.1 (mth 63).2.2.1 (mth 63).2.2.2.1 (mth 63).2.2.2.2.2.2 = true := by decide +kernel
theorem yc_64 : okC lkX3 (mth 64).2.2.2.2.1 (mth 64).2.1 (mth 64).2.2.1 (mth 64).2.2.2.1 (mth 64).2.2.2.2.2.2 = true := by decide +kernel
theorem yc_65 : okC lkX3 (mth 65).2.2.2.2.1 (mth 65).2.1 (mth 65).2.2.1 (mth 65).2.2.2.1 (mth 65).2.2.2.2.2.2 = true := by decide +kernel
theorem yc_66 : okC lkX3 (mth 66).2.2.2.2.1 (mth 66).2.1 (mth 66).2.2.1 (mth 66).2.2.2.1 (mth 66).2.2.2.2.2.2 = true := by decide +kernel
theorem yc_67 : okC lkX3 (mth 67).2.2.2.2.1 (mth 67).2.1 (mth 67).2.2.1 (mth 67).2.2.2.1 (mth 67).2.2.2.2.2.2 = true := by decide +kernel
theorem yc_68 : okC lkX3 (mth 68).2.2.2.2.1 (mth 68).2.1 (mth 68).2.2.1 (mth 68).2.2.2.1 (mth 68).2.2.2.2.2.2 = true := by decide +kernel
theorem yc_69 : okC lkX3 (mth 69).2.2.2.2.1 (mth 69).2.1 (mth 69).2.2.1 (mth 69).2.2.2.1 (mth 69).2.2.2.2.2.2 = true := by decide +kernel
theorem yc_70 : okC lkX3 (mth 70).2.2.2.2.1 (mth 70).2.1 (mth 70).2.2.1 (mth 70).2.2.2.1 (mth 70).2.2.2.2.2.2 = true := by decide +kernel
theorem yc_71 : okC lkX3 (mth 71).2.2.2.2.1 (mth 71).2.1 (mth 71).2.2.1 (mth 71).2.2.2.1 (mth 71).2.2.2.2.2.2 = true := by decide +kernel
theorem yc_72 : okC lkX3 (mth 72).2.2.2.2.1 (mth 72).2.1 (mth 72).2.2.1 (mth 72).2.2.2.1 (mth 72).2.2.2.2.2.2 = true := by decide +kernel
theorem yc_73 : okC lkX3 (mth 73).2.2.2.2.1 (mth 73).2.1 (mth 73).2.2.1 (mth 73).2.2.2.1 (mth 73).2.2.2.2.2.2 = true := by decide +kernel
theorem yc_74 : okC lkX3 (mth 74).2.2.2.2.1 (mth 74).2.1 (mth 74).2.2.1 (mth 74).2.2.2.1 (mth 74).2.2.2.2.2.2 = true := by decide +kernel
theorem yc_75 : okC lkX3 (mth 75).2.2.2.2.1 (mth 75).2.1 (mth 75).2.2.1 (mth 75).2.2.2.1 (mth 75).2.2.2.2.2.2 = true := by decide +kernel
theorem yc_76 : okC lkX3 (mth 76).2.2.2.2.1 (mth 76).2.1 (mth 76).2.2.1 (mth 76).2.2.2.1 (mth 76).2.2.2.2.2.2 = true := by decide +kernel
theorem yc_77 : okC lkX3 (mth 77).2.2.2.2.1 (mth 77).2.1 (mth 77).2.2.1 (mth 77).2.2.2.1 (mth 77).2.2.2.2.2.2 = true := by decide +kernel
theorem yc_78 : okC lkX3 (mth 78).2.2.2.2.1 (mth 78).2.1 (mth 78).2.2.1 (mth 78).2.2.2.1 (mth 78).2.2.2.2.2.2 = true := by decide +kernel
theorem yc_79 : okC lkX3 (mth 79).2.2.2.2.1 (mth 79).2.1 (mth 79).2.2.1 (mth 79).2.2.2.1 (mth 79).2.2.2.2.2.2 = true := by decide +kernel
theorem yc_80 : okC lkX3 (mth 80).2.2.2.2.1 (mth 80).2.1 (mth 80).2.2.1 (mth 80).2.2.2.1 (mth 80).2.2.2.2.2.2 = true := by decide +kernel
theorem yc_81 : okC lkX3 (mth 81).2.2.2.2.1 (mth 81).2.1 (mth 81).2.2.1 (mth 81).2.2.2.1 (mth 81).2.2.2.2.2.2 = true := by decide +kernel
theorem yc_82 : okC lkX3 (mth 82).2.2.2.2.1 (mth 82).2.1 (mth 82).2.2.1 (mth 82).2.2.2.1 (mth 82).2.2.2.2.2.2 = true := by decide +kernel
theorem yc_83 : okC lkX3 (mth 83).2.2.2.2.1 (mth 83).2.1 (mth 83).2.2.1 (mth 83).2.2.2.1 (mth 83).2.2.2.2.2.2 = true := by decide +kernel
theorem yc_84 : okC lkX3 (mth 84).2.2.2.2.1 (mth 84).2.1 (mth 84).2.2.1 (mth 84).2.2.2.1 (mth 84).2.2.2.2.2.2 = true := by decide +kernel
theorem yc_85 : okC lkX3 (mth 85).2.2.2.2.1 (mth 85).2.1 (mth 85).2.2.1 (mth 85).2.2.2.1 (mth 85).2.2.2.2.2.2 = true := by decide +kernel
theorem yc_86 : okC lkX3 (mth 86).2.2.2.2.1 (mth 86).2.1 (mth 86).2.2.1 (mth 86).2.2.2.1 (mth 86).2.2.2.2.2.2 = true := by decide +kernel
theorem yc_87 : okC lkX3 (mth 87).2.2.2.2.1 (mth 87).2.1 (mth 87).2.2.1 (mth 87).2.2.2.1 (mth 87).2.2.2.2.2.2 = true := by decide +kernel
theorem yc_88 : okC lkX3 (mth 88).2.2.2.2.1 (mth 88).2.1 (mth 88).2.2.1 (mth 88).2.2.2.1 (mth 88).2.2.2.2.2.2 = true := by decide +kernel
theorem yc_89 : okC lkX3 (mth 89).2.2.2.2.1 (mth 89).2.1 (mth 89).2.2.1 (mth 89).2.2.2.1 (mth 89).2.2.2.2.2.2 = true := by decide +kernel
theorem yc_90 : okC lkX3 (mth 90).2.2.2.2.1 (mth 90).2.1 (mth 90).2.2.1 (mth 90).2.2.2.1 (mth 90).2.2.2.2.2.2 = true := by decide +kernel
theorem yc_91 : okC lkX3 (mth 91).2.2.2.2.1 (mth 91).2.1 (mth 91).2.2.1 (mth 91).2.2.2.1 (mth 91).2.2.2.2.2.2 = true := by decide +kernel
theorem yc_92 : okC lkX3 (mth 92).2.2.2.2.1 (mth 92).2.1 (mth 92).2.2.1 (mth 92).2.2.2.1 (mth 92).2.2.2.2.2.2 = true := by decide +kernel
theorem yc_93 : okC lkX3 (mth 93).2.2.2.2.1 (mth 93).2.1 (mth 93).2.2.1 (mth 93).2.2.2.1 (mth 93).2.2.2.2.2.2 = true := by decide +kernel
theorem yc_94 : okC lkX3 (mth 94).2.2.2.2.1 (mth 94).2.1 (mth 94).2.2.1 (mth 94).2.2.2.1 (mth 94).2.2.2.2.2.2 = true := by decide +kernel
theorem yc_95 : okC lkX3 (mth 95).2.2.2.2.1 (mth 95).2.1 (mth 95).2.2.1 (mth 95).2.2.2.1 (mth 95).2.2.2.2.2.2 = true := by decide +kernel
theorem yc_96 : okC lkX3 (mth 96).2.2.2.2.1 (mth 96).2.1 (mth 96).2.2.1 (mth 96).2.2.2.1 (mth 96).2.2.2.2.2.2 = true := by decide +kernel
theorem yc_97 : okC lkX3 (mth 97).2.2.2.2.1 (mth 97).2.1 (mth 97).2.2.1 (mth 97).2.2.2.1 (mth 97).2.2.2.2.2.2 = true := by decide +kernel
theorem yc_98 : okC lkX3 (mth 98).2.2.2.2.1 (mth 98).2.1 (mth 98).2.2.1 (mth 98).2.2.2.1 (mth 98).2.2.2.2.2.2 = true := by decide +kernel
theorem yc_99 : okC lkX3 (mth 99).2.2.2.2.1 (mth 99).2.1 (mth 99).2.2.1 (mth 99).2.2.2.1 (mth 99).2.2.2.2.2.2 = true := by decide +kernel
theorem yc_100 : okC lkX4 (mth 100).2.2.2.2.1 (mth 100).2.1 (mth 100).2.2.1 (mth 100).2.2.2.1 (mth 100).2.2.2.2.2.2 = true := by decide +kernel
theorem yc_101 : okC lkX4 (mth 101).2.2.2.2.1 (mth 101).2.1 (mth 101).2.2.1 (mth 101).2.2.2.1 (mth 101).2.2.2.2.2.2 = true := by decide +kernel
theorem yc_102 : okC lkX4 (mth 102).2.2.2.2.1 (mth 102).2.1 (mth 102).2.2.1 (mth 102).2.2.2.1 (mth 102).2.2.2.2.2.2 = true := by decide +kernel
theorem yc_103 : okC lkX4 (mth 103).2.2.2.2.1 (mth 103).2.1 (mth 103).2.2.1 (mth 103).2.2.2.1 (mth 103).2.2.2.2.2.2 = true := by decide +kernel
theorem yc_104 : okC lkX4 (mth 104).2.2.2.2.1 (mth 104).2.1 (mth 104).2.2.1 (mth 104).2.2.2.1 (mth 104).2.2.2.2.2.2 = true := by decide +kernel
theorem yc_105 : okC lkX4 (mth 105).2.2.2.2.1 (mth 105).2.1 (mth 105).2.2.1 (mth 105).2.2.2.1 (mth 105).2.2.2.2.2.2 = true := by decide +kernel
theorem yc_106 : okC lkX4 (mth 106).2.2.2.2.1 (mth 106).2.1 (mth 106).2.2.1 (mth 106).2.2.2.1 (mth 106).2.2.2.2.2.2 = true := by decide +kernel
theorem yc_107 : okC lkX4 (mth 107).2.2.2.2.1 (mth 107).2.1 (mth 107).2.2.1 (mth 107).2.2.2.1 (mth 107).2.2.2.2.2.2 = true := by decide +kernel
theorem yc_108 : okC lkX4 (mth 108).2.2.2.2.1 (mth 108).2.1 (mth 108).2.2.1 (mth 108).2.2.2.1 (mth 108).2.2.2.2.2.2 = true := by decide +kernel
theorem yc_109 : okC lkX4 (mth 109).2.2.2.2.1 (mth 109).2.1 (mth 109).2.2.1 (mth 109).2.2.2.1 (mth 109).2.2.2.2.2.2 = true := by decide +kernel
theorem yc_110 : okC lkX4 (mth 110).2.2.2.2.1 (mth 110).2.1 (mth 110).2.2.1 (mth 110).2.2.2.1 (mth 110).2.2.2.2.2.2 = true := by decide +kernel
theorem yc_111 : okC lkX4 (mth 111).2.2.2.2.1 (mth 111).2.1 (mth 111).2.2.1 (mth 111).2.2.2.1 (mth 111).2.2.2.2.2.2 = true := by decide +kernel
theorem yc_112 : okC lkX4 (mth 112).2.2.2.2.1 (mth 112).2.1 (mth 112).2.2.1 (mth 112).2.2.2.1 (mth 112).2.2.2.2.2.2 = true := by decide +kernel
theorem yc_113 : okC lkX4 (mth 113).2.2.2.2.1 (mth 113).2.1 (mth 113).2.2.1 (mth 113).2.2.2.1 (mth 113).2.2.2.2.2.2 = true := by decide +kernel
theorem yc_114 : okC lkX4 (mth 114).2.2.2.2.1 (mth 114).2.1 (mth 114).2.2.1 (mth 114).2.2.2.1 (mth 114).2.2.2.2.2.2 = true := by decide +kernel
theorem yc_115 : okC lkX4 (mth 115).2.2.2.2.1 (mth 115).2.1 (mth 115).2.2.1 (mth 115).2.2.2.1 (mth 115).2.2.2.2.2.2 = true := by decide +kernel
theorem yc_116 : okC lkX4 (mth 116).2.2.2.2.1 (mth 116).2.1 (mth 116).2.2.1 (mth 116).2.2.2.1 (mth 116).2.2.2.2.2.2 = true := by decide +kernel
theorem yc_117 : okC lkX4 (mth 117).2.2.2.2.1 (mth 117).2.1 (mth 117).2.2.1 (mth 117).2.2.2.1 (mth 117).2.2.2.2.2.2 = true := by decide +kernel
theorem yc_118 : okC lkX4 (mth 118).2.2.2.2.1 (mth 118).2.1 (mth 118).2.2.1 (mth 118).2.2.2.1 (mth 118).2.2.2.2.2.2 = true := by decide +kernel
theorem yc_119 : okC lkX4 (mth 119).2.2.2.2.1 (mth 119).2.1 (mth 119).2.2.1 (mth 119).2.2.2.1 (mth 119).2.2.2.2.2.2 = true := by decide +kernel
theorem yc_120 : okC lkX4 (mth 120).2.2.2.2.1 (mth 120).2.1 (mth 120).2.2.1 (mth 120).2.2.2.1 (mth 120).2.2.2.2.2.2 = true := by decide +kernel
theorem yc_121 : okC lkX4 (mth 121).2.2.2.2.1 (mth 121).2.1 (mth 121).2.2.1 (mth 121).2.2.2.1 (mth 121).2.2.2.2.2.2 = true := by decide +kernel
theorem yc_122 : okC lkX4 (mth 122).2.2.2.2.1 (mth 122).2.1 (mth 122).2.2.1 (mth 122).2.2.2.1 (mth 122).2.2.2.2.2.2 = true := by decide +kernel
theorem yc_123 : okC lkX4 (mth 123).2.2.2.2.1 (mth 123).2.1 (mth 123).2.2.1 (mth 123).2.2.2.1 (mth 123).2.2.2.2.2.2 = true := by decide +kernel
theorem yc_124 : okC lkX4 (mth 124).2.2.2.2.1 (mth 124).2.1 (mth 124).2.2.1 (mth 124).2.2.2.1 (mth 124).2.2.2.2.2.2 = true := by decide +kernel
theorem yc_125 : okC lkX4 (mth 125).2.2.2.2.1 (mth 125).2.1 (mth 125).2.2.1 (mth 125).2.2.2.1 (mth 125).2.2.2.2.2.2 = true := by decide +kernel
theorem yc_126 : okC lkX4 (mth 126).2.2.2.2.1 (mth 126).2.1 (mth 126).2.2.1 (mth 126).2.2.2.1 (mth 126).2.2.2.2.2.2 = true := by decide +kernel
theorem yc_127 : okC lkX4 (mth 127).2.2.2.2.1 (mth 127).2.1 (mth 127).2.2.1 (mth 127).2.2.2.1 (mth 127).2.2.2.2.2.2 = true := by decide +kernel
theorem yc_128 : okC lkX4 (mth 128).2.2.2.2.1 (mth 128).2.1 (mth 128).2.2.1 (mth 128).2.2.2.1 (mth 128).2.2.2.2.2.2 = true := by decide +kernel
theorem yc_129 : okC lkX4 (mth 129).2.2.2.2.1 (mth 129).2.1 (mth 129).2.2.1 (mth 129).2.2.2.1 (mth 129).2.2.2.2.2.2 = true := by decide +kernel
theorem yc_130 : okC lkX4 (mth 130).2.2.2.2.1 (mth 130).2.1 (mth 130).2.2.1 (mth 130).2.2.2.1 (mth 130).2.2.2.2.2.2 = true := by decide +kernel
theorem yc_131 : okC lkX4 (mth 131).2.2.2.2.1 (mth 131).2.1 (mth 131).2.2.1 (mth 131).2.2.2.1 (mth 131).2.2.2.2.2.2 = true := by decide +kernel
theorem yc_132 : okC lkX4 (mth 132).2.2.2.2.1 (mth 132).2.1 (mth 132).2.2.1 (mth 132).2.2.2.1 (mth 132).2.2.2.2.2.2 = true := by decide +kernel
theorem yc_133 : okC lkX4 (mth 133).2.2.2.2.1 (mth 133).2.1 (mth 133).2.2.1 (mth 133).2.2.2.1 (mth 133).2.2.2.2.2.2 = true := by decide +kernel
theorem yc_134 : okC lkX4 (mth 134).2.2.2.2.1 (mth 134).2.1 (mth 134).2.2.1 (mth 134).2.2.2.1 (mth 134).2.2.2.2.2.2 = true := by decide +kernel
theorem yc_135 : okC lkX4 (mth 135).2.2.2.2.1 (mth 135).2.1 (mth 135).2.2.1 (mth 135).2.2.2.1 (mth 135).2.2.2.2.2.2 = true := by decide +kernel
theorem yc_136 : okC lkX4 (mth 136).2.2.2.2.1 (mth 136).2.1 (mth 136).2.2.1 (mth 136).2.2.2.1 (mth 136).2.2.2.2.2.2 = true := by decide +kernel
theorem yc_137 : okC lkX4 (mth 137).2.2.2.2.1 (mth 137).2.1 (mth 137).2.2.1 (mth 137).2.2.2.1 (mth 137).2.2.2.2.2.2 = true := by decide +kernel
theorem yc_138 : okC lkX4 (mth 138).2.2.2.2.1 (mth 138).2.1 (mth 138).2.2.1 (mth 138).2.2.2.1 (mth 138).2.2.2.2.2.2 = true := by decide +kernel
theorem yc_139 : okC lkX4 (mth 139).2.2.2.2.1 (mth 139).2.1 (mth 139).2.2.1 (mth 139).2.2.2.1 (mth 139).2.2.2.2.2.2 = true := by decide +kernel
theorem yc_140 : okC lkX4 (mth 140).2.2.2.2.1 (mth 140).2.1 (mth 140).2.2.1 (mth 140).2.2.2.1 (mth 140).2.2.2.2.2.2 = true := by decide +kernel
theorem yc_141 : okC lkX4 (mth 141).2.2.2.2.1 (mth 141).2.1 (mth 141).2.2.1 (mth 141).2.2.2.1 (mth 141).2.2.2.2.2.2 = true := by decide +kernel
theorem yc_142 : okC lkX4 (mth 142).2.2.2.2.1 (mth 142).2.1 (mth 142).2.2.1 (mth 142).2.2.2.1 (mth 142).2.2.2.2.2.2 = true := by decide +kernel
theorem yc_143 : okC lkX4 (mth 143).2.2.2.2.1 (mth 143).2.1 (mth 143).2.2.1 (mth 143).2.2.2.1 (mth 143).2.2.2.2.2.2 = true := by decide +kernel
theorem yc_144 : okC lkX4 (mth 144).2.2.2.2.1 (mth 144).2.1 (mth 144).2.2.1 (mth 144).2.2.2.1 (mth 144).2.2.2.2.2.2 = true := by decide +kernel
theorem yc_145 : okC lkX4 (mth 145).2.2.2.2.1 (mth 145).2.1 (mth 145).2.2.1 (mth 145).2.2.2.1 (mth 145).2.2.2.2.2.2 = true := by decide +kernel
theorem yc_146 : okC lkX4 (mth 146).2.2.2.2.1 (mth 146).2.1 (mth 146).2.2.1 (mth 146).2.2.2.1 (mth 146).2.2.2.2.2.2 = true := by decide +kernel
theorem yc_147 : okC lkX4 (mth 147).2.2.2.2.1 (mth 147).2.1 (mth 147).2.2.1 (mth 147).2.2.2.1 (mth 147).2.2.2.2.2.2 = true := by decide +kernel
theorem yc_148 : okC lkX4 (mth 148).2.2.2.2.1 (mth 148).2.1 (mth 148).2.2.1 (mth 148).2.2.2.1 (mth 148).2.2.2.2.2.2 = true := by decide +kernel
theorem yc_149 : okC lkX4 (mth 149).2.2.2.2.1 (mth 149).2.1 (mth 149).2.2.1 (mth 149).2.2.2.1 (mth 149).2.2.2.2.2.2 = true := by decide +kernel
theorem yc_150 : okC lkX4 (mth 150).2.2.2.2.1 (mth 150).2.1 (mth 150).2.2.1 (mth 150).2.2.2.1 (mth 150).2.2.2.2.2.2 = true := by decide +kernel
theorem yc_151 : okC lkX4 (mth 151).2.2.2.2.1 (mth 151).2.1 (mth 151).2.2.1 (mth 151).2.2.2.1 (mth 151).2.2.2.2.2.2 = true := by decide +kernel
theorem yc_152 : okC lkX4 (mth 152).2.2.2.2.1 (mth 152).2.1 (mth 152).2.2.1 (mth 152).2.2.2.1 (mth 152).2.2.2.2.2.2 = true := by decide +kernel
theorem yc_153 : okC lkX4 (mth 153).2.2.2.2.1 (mth 153).2.1 (mth 153).2.2.1 (mth 153).2.2.2.1 (mth 153).2.2.2.2.2.2 = true := by decide +kernel
theorem yc_154 : okC lkX4 (mth 154).2.2.2.2.1 (mth 154).2.1 (mth 154).2.2.1 (mth 154).2.2.2.1 (mth 154).2.2.2.2.2.2 = true := by decide +kernel
theorem yc_155 : okC lkX4 (mth 155).2.2.2.2.1 (mth 155).2.1 (mth 155).2.2.1 (mth 155).2.2.2.1 (mth 155).2.2.2.2.2.2 = true := by decide +kernel
theorem yc_156 : okC lkX4 (mth 156).2.2.2.2.1 (mth 156).2.1 (mth 156).2.2.1 (mth 156).2.2.2.1 (mth 156).2.2.2.2.2.2 = true := by decide +kernel
theorem yc_157 : okC lkX4 (mth 157).2.2.2.2.1 (mth 157).2.1 (mth 157).2.2.1 (mth 157).2.2.2.1 (mth 157).2.2.2.2.2.2 = true := by decide +kernel
theorem yc_158 : okC lkX4 (mth 158).2.2.2.2.1 (mth 158).2.1 (mth 158).2.2.1 (mth 158).2.2.2.1 (mth 158).2.2.2.2.2.2 = true := by decide +kernel
theorem yc_159 : okC lkX4 (mth 159).2.2.2.2.1 (mth 159).2.1 (mth 159).2.2.1 (mth 159).2.2.2.1 (mth 159).2.2.2.2.2.2 = true := by decide +kernel
theorem yc_160 : okC lkX4 (mth 160).2.2.2.2.1 (mth 160).2.1 (mth 160).2.2.1 (mth 160).2.2.2.1 (mth 160).2.2.2.2.2.2 = true := by decide +kernel
theorem yc_161 : okC lkX4 (mth 161).2.2.2.2.1 (mth 161).2.1 (mth 161).2.2.1 (mth 161).2.2.2.1 (mth 161).2.2.2.2.2.2 = true := by decide +kernel
theorem yc_162 : okC lkX4 (mth 162).2.2.2.2.1 (mth 162).2.1 (mth 162).2.2.1 (mth 162).2.2.2.1 (mth 162).2.2.2.2.2.2 = true := by decide +kernel
theorem yc_163 : okC lkX4 (mth 163).2.2.2.2.1 (mth 163).2.1 (mth 163).2.2.1 (mth 163).2.2.2.1 (mth 163).2.2.2.2.2.2 = true := by decide +kernel
theorem yc_164 : okC lkX4 (mth 164).2.2.2.2.1 (mth 164).2.1 (mth 164).2.2.1 (mth 164).2.2.2.1 (mth 164).2.2.2.2.2.2 = true := by decide +kernel
theorem yc_165 : okC lkX4 (mth 165).2.2.2.2.1 (mth 165).2.1 (mth 165).2.2.1 (mth 165).2.2.2.1 (mth 165).2.2.2.2.2.2 = true := by decide +kernel
theorem yc_166 : okC lkX4 (mth 166).2.2.2.2.1 (mth 166).2.1 (mth 166).2.2.1 (mth 166).2.2.2.1 (mth 166).2.2.2.2.2.2 = true := by decide +kernel
theorem yc_167 : okC lkX4 (mth 167).2.2.2.2.1 (mth 167).2.1 (mth 167).2.2.1 (mth 167).2.2.2.1 (mth 167).2.2.2.2.2.2 = true := by decide +kernel
theorem yc_168 : okC lkX4 (mth 168).2.2.2.2.1 (mth 168).2.1 (mth 168).2.2.1 (mth 168).2.2.2.1 (mth 168).2.2.2.2.2.2 = true := by decide +kernel
theorem yc_169 : okC lkX4 (mth 169).2.2.2.2.1 (mth 169).2.1 (mth 169).2.2.1 (mth 169).2.2.2.1 (mth 169).2.2.2.2.2.2 = true := by decide +kernel
theorem yc_170 : okC lkX4 (mth 170).2.2.2.2.1 (mth 170).2.1 (mth 170).2.2.1 (mth 170).2.2.2.1 (mth 170).2.2.2.2.2.2 = true := by decide +kernel
theorem yc_171 : okC lkX4 (mth 171).2.2.2.2.1 (mth 171).2.1 (mth 171).2.2.1 (mth 171).2.2.2.1 (mth 171).2.2.2.2.2.2 = true := by decide +kernel
theorem yc_172 : okC lkX4 (mth 172).2.2.2.2.1 (mth 172).2.1 (mth 172).2.2.1 (mth 172).2.2.2.1 (mth 172).2.2.2.2.2.2 = true := by decide +kernel
theorem yc_173 : okC lkX4 (mth 173).2.2.2.2.1 (mth 173).2.1 (mth 173).2.2.1 (mth 173).2.2.2.1 (mth 173).2.2.2.2.2.2 = true := by decide +kernel
theorem yc_174 : okC lkX4 (mth 174).2.2.2.2.1 (mth 174).2.1 (mth 174).2.2.1 (mth 174).2.2.2.1 (mth 174).2.2.2.2.2.2 = true := by decide +kernel
theorem yc_175 : okC lkX4 (mth 175).2.2.2.2.1 (mth 175).2.1 (mth 175).2.2.1 (mth 175).2.2.2.1 (mth 175).2.2.2.2.2.2 = true := by decide +kernel
theorem yc_176 : okC lkX4 (mth 176).2.2.2.2.1 (mth 176).2.1 (mth 176).2.2.1 (mth 176).2.2.2.1 (mth 176).2.2.2.2.2.2 = true := by decide +kernel
theorem yc_177 : okC lkX4 (mth 177).2.2.2.2.1 (mth 177).2.1 (mth 177).2.2.1 (mth 177).2.2.2.1 (mth 177).2.2.2.2.2.2 = true := by decide +kernel
theorem yc_178 : okC lkX4 (mth 178).2.2.2.2.1 (mth 178).2.1 (mth 178).2.2.1 (mth 178).2.2.2.1 (mth 178).2.2.2.2.2.2 = true := by decide +kernel
theorem yc_179 : okC lkX4 (mth 179).2.2.2.2.1 (mth 179).2.1 (mth 179).2.2.1 (mth 179).2.2.2.1 (mth 179).2.2.2.2.2.2 = true := by decide +kernel
theorem yc_180 : okC lkX4 (mth 180).2.2.2.2.1 (mth 180).2.1 (mth 180).2.2.1 (mth 180).2.2.2.1 (mth 180).2.2.2.2.2.2 = true := by decide +kernel
theorem yc_181 : okC lkX4 (mth 181).2.2.2.2.1 (mth 181).2.1 (mth 181).2.2.1 (mth 181).2.2.2.1 (mth 181).2.2.2.2.2.2 = true := by decide +kernel
theorem yc_182 : okC lkX4 (mth 182).2.2.2.2.1 (mth 182).2.1 (mth 182).2.2.1 (mth 182).2.2.2.1 (mth 182).2.2.2.2.2.2 = true := by decide +kernel
theorem yc_183 : okC lkX4 (mth 183).2.2.2.2.1 (mth 183).2.1 (mth 183).2.2.1 (mth 183).2.2.2.1 (mth 183).2.2.2.2.2.2 = true := by decide +kernel
theorem yc_184 : okC lkX4 (mth 184).2.2.2.2.1 (mth 184).2.1 (mth 184).2.2.1 (mth 184).2.2.2.1 (mth 184).2.2.2.2.2.2 = true := by decide +kernel
theorem yc_185 : okC lkX4 (mth 185).2.2.2.2.1 (mth 185).2.1 (mth 185).2.2.1 (mth 185).2.2.2.1 (mth 185).2.2.2.2.2.2 = true := by decide +kernel
theorem yc_186 : okC lkX4 (mth 186).2.2.2.2.1 (mth 186).2.1 (mth 186).2.2.1 (mth 186).2.2.2.1 (mth 186).2.2.2.2.2.2 = true := by decide +kernel
theorem yc_187 : okC lkX4 (mth 187).2.2.2.2.1 (mth 187).2.1 (mth 187).2.2.1 (mth 187).2.2.2.1 (mth 187).2.2.2.2.2.2 = true := by decide +kernel
theorem yc_188 : okC lkX4 (mth 188).2.2.2.2.1 (mth 188).2.1 (mth 188).2.2.1 (mth 188).2.2.2.1 (mth 188).2.2.2.2.2.2 = true := by decide +kernel
theorem yc_189 : okC lkX4 (mth 189).2.2.2.2.1 (mth 189).2.1 (mth 189).2.2.1 (mth 189).2.2.2.1 (mth 189).2.2.2.2.2.2 = true := by decide +kernel
theorem yc_190 : okC lkX4 (mth 190).2.2.2.2.1 (mth 190).2.1 (mth 190).2.2.1 (mth 190).2.2.2.1 (mth 190).2.2.2.2.2.2 = true := by decide +kernel
theorem yc_191 : okC lkJ13 (mth 191).2.2.2.2.1 (mth 191).2.1 (mth 191).2.2.1 (mth 191).2.2.2.1 (mth 191).2.2.2.2.2.2 = true := by decide +kernel
theorem yc_192 : okC lkJ7 (mth 192).2.2.2.2.1 (mth 192).2.1 (mth 192).2.2.1 (mth 192).2.2.2.1 (mth 192).2.2.2.2.2.2 = true := by decide +kernel
theorem yc_193 : okC lkJ7 (mth 193).2.2.2.2.1 (mth 193).2.1 (mth 193).2.2.1 (mth 193).2.2.2.1 (mth 193).2.2.2.2.2.2 = true := by decide +kernel
theorem yc_194 : okC lkJ7 (mth 194).2.2.2.2.1 (mth 194).2.1 (mth 194).2.2.1 (mth 194).2.2.2.1 (mth 194).2.2.2.2.2.2 = true := by decide +kernel
theorem met_all : ∀ y, y < 195 → metOk y
  | 0, _ => metB_ok ym_0
  | 1, _ => metB_ok ym_1
  | 2, _ => metB_ok ym_2
  | 3, _ => metB_ok ym_3
  | 4, _ => metB_ok ym_4
  | 5, _ => metB_ok ym_5
  | 6, _ => metB_ok ym_6
  | 7, _ => metB_ok ym_7
  | 8, _ => metB_ok ym_8
  | 9, _ => metB_ok ym_9
  | 10, _ => metB_ok ym_10
  | 11, _ => metB_ok ym_11
  | 12, _ => metB_ok ym_12
  | 13, _ => metB_ok ym_13
  | 14, _ => metB_ok ym_14
  | 15, _ => metB_ok ym_15
  | 16, _ => metB_ok ym_16
  | 17, _ => metB_ok ym_17
  | 18, _ => metB_ok ym_18
  | 19, _ => metB_ok ym_19
  | 20, _ => metB_ok ym_20
  | 21, _ => metB_ok ym_21
  | 22, _ => metB_ok ym_22
  | 23, _ => metB_ok ym_23
  | 24, _ => metB_ok ym_24
  | 25, _ => metB_ok ym_25
  | 26, _ => metB_ok ym_26
  | 27, _ => metB_ok ym_27
  | 28, _ => metB_ok ym_28
  | 29, _ => metB_ok ym_29
  | 30, _ => metB_ok ym_30
  | 31, _ => metB_ok ym_31
  | 32, _ => metB_ok ym_32
  | 33, _ => metB_ok ym_33
  | 34, _ => metB_ok ym_34
  | 35, _ => metB_ok ym_35
  | 36, _ => metB_ok ym_36
  | 37, _ => metB_ok ym_37
  | 38, _ => metB_ok ym_38
  | 39, _ => metB_ok ym_39
  | 40, _ => metB_ok ym_40
  | 41, _ => metB_ok ym_41
  | 42, _ => metB_ok ym_42
  | 43, _ => metB_ok ym_43
  | 44, _ => metB_ok ym_44
  | 45, _ => metB_ok ym_45
  | 46, _ => metB_ok ym_46
  | 47, _ => metB_ok ym_47
  | 48, _ => metB_ok ym_48
  | 49, _ => metB_ok ym_49
  | 50, _ => metB_ok ym_50
  | 51, _ => metB_ok ym_51
  | 52, _ => metB_ok ym_52
  | 53, _ => metB_ok ym_53
  | 54, _ => metB_ok ym_54
  | 55, _ => metB_ok ym_55
  | 56, _ => metB_ok ym_56
  | 57, _ => metB_ok ym_57
  | 58, _ => metB_ok ym_58
  | 59, _ => metB_ok ym_59
  | 60, _ => metB_ok ym_60
  | 61, _ => metB_ok ym_61
  | 62, _ => metB_ok ym_62
  | 63, _ => metB_ok ym_63
  | 64, _ => metB_ok ym_64
  | 65, _ => metB_ok ym_65
  | 66, _ => metB_ok ym_66
  | 67, _ => metB_ok ym_67
  | 68, _ => metB_ok ym_68
  | 69, _ => metB_ok ym_69
  | 70, _ => metB_ok ym_70
  | 71, _ => metB_ok ym_71
  | 72, _ => metB_ok ym_72
  | 73, _ => metB_ok ym_73
  | 74, _ => metB_ok ym_74
  | 75, _ => metB_ok ym_75
  | 76, _ => metB_ok ym_76
  | 77, _ => metB_ok ym_77
  | 78, _ => metB_ok ym_78
  | 79, _ => metB_ok ym_79
  | 80, _ => metB_ok ym_80
  | 81, _ => metB_ok ym_81
  | 82, _ => metB_ok ym_82
  | 83, _ => metB_ok ym_83
  | 84, _ => metB_ok ym_84
  | 85, _ => metB_ok ym_85
  | 86, _ => metB_ok ym_86
  | 87, _ => metB_ok ym_87
  | 88, _ => metB_ok ym_88
  | 89, _ => metB_ok ym_89
  | 90, _ => metB_ok ym_90
  | 91, _ => metB_ok ym_91
  | 92, _ => metB_ok ym_92
  | 93, _ => metB_ok ym_93
  | 94, _ => metB_ok ym_94
  | 95, _ => metB_ok ym_95
  | 96, _ => metB_ok ym_96
  | 97, _ => metB_ok ym_97
  | 98, _ => metB_ok ym_98
  | 99, _ => metB_ok ym_99
  | 100, _ => metB_ok ym_100
  | 101, _ => metB_ok ym_101
  | 102, _ => metB_ok ym_102
  | 103, _ => metB_ok ym_103
  | 104, _ => metB_ok ym_104
  | 105, _ => metB_ok ym_105
  | 106, _ => metB_ok ym_106
  | 107, _ => metB_ok ym_107
  | 108, _ => metB_ok ym_108
  | 109, _ => metB_ok ym_109
  | 110, _ => metB_ok ym_110
  | 111, _ => metB_ok ym_111
  | 112, _ => metB_ok ym_112
  | 113, _ => metB_ok ym_113
  | 114, _ => metB_ok ym_114
  | 115, _ => metB_ok ym_115
  | 116, _ => metB_ok ym_116
  | 117, _ => metB_ok ym_117
  | 118, _ => metB_ok ym_118
  | 119, _ => metB_ok ym_119
  | 120, _ => metB_ok ym_120
  | 121, _ => metB_ok ym_121
  | 122, _ => metB_ok ym_122
  | 123, _ => metB_ok ym_123
  | 124, _ => metB_ok ym_124
  | 125, _ => metB_ok ym_125
  | 126, _ => metB_ok ym_126
  | 127, _ => metB_ok ym_127
  | 128, _ => metB_ok ym_128
  | 129, _ => metB_ok ym_129
  | 130, _ => metB_ok ym_130
  | 131, _ => metB_ok ym_131
  | 132, _ => metB_ok ym_132
  | 133, _ => metB_ok ym_133
  | 134, _ => metB_ok ym_134
  | 135, _ => metB_ok ym_135
  | 136, _ => metB_ok ym_136
  | 137, _ => metB_ok ym_137
  | 138, _ => metB_ok ym_138
  | 139, _ => metB_ok ym_139
  | 140, _ => metB_ok ym_140
  | 141, _ => metB_ok ym_141
  | 142, _ => metB_ok ym_142
  | 143, _ => metB_ok ym_143
  | 144, _ => metB_ok ym_144
  | 145, _ => metB_ok ym_145
  | 146, _ => metB_ok ym_146
  | 147, _ => metB_ok ym_147
  | 148, _ => metB_ok ym_148
  | 149, _ => metB_ok ym_149
  | 150, _ => metB_ok ym_150
  | 151, _ => metB_ok ym_151
  | 152, _ => metB_ok ym_152
  | 153, _ => metB_ok ym_153
  | 154, _ => metB_ok ym_154
  | 155, _ => metB_ok ym_155
  | 156, _ => metB_ok ym_156
  | 157, _ => metB_ok ym_157
  | 158, _ => metB_ok ym_158
  | 159, _ => metB_ok ym_159
  | 160, _ => metB_ok ym_160
  | 161, _ => metB_ok ym_161
  | 162, _ => metB_ok ym_162
  | 163, _ => metB_ok ym_163
  | 164, _ => metB_ok ym_164
  | 165, _ => metB_ok ym_165
  | 166, _ => metB_ok ym_166
  | 167, _ => metB_ok ym_167
  | 168, _ => metB_ok ym_168
  | 169, _ => metB_ok ym_169
  | 170, _ => metB_ok ym_170
  | 171, _ => metB_ok ym_171
  | 172, _ => metB_ok ym_172
  | 173, _ => metB_ok ym_173
  | 174, _ => metB_ok ym_174
  | 175, _ => metB_ok ym_175
  | 176, _ => metB_ok ym_176
  | 177, _ => metB_ok ym_177
  | 178, _ => metB_ok ym_178
  | 179, _ => metB_ok ym_179
  | 180, _ => metB_ok ym_180
  | 181, _ => metB_ok ym_181
  | 182, _ => metB_ok ym_182
  | 183, _ => metB_ok ym_183
  | 184, _ => metB_ok ym_184
  | 185, _ => metB_ok ym_185
  | 186, _ => metB_ok ym_186
  | 187, _ => metB_ok ym_187
  | 188, _ => metB_ok ym_188
  | 189, _ => metB_ok ym_189
  | 190, _ => metB_ok ym_190
  | 191, _ => metB_ok ym_191
  | 192, _ => metB_ok ym_192
  | 193, _ => metB_ok ym_193
  | 194, _ => metB_ok ym_194
  | n + 195, h => absurd h (by omega)
theorem y_all : ∀ y, y < 195 → yOk y
  | 0, _ => ⟨lkX0, lkG_X0, yc_0, rfl⟩
  | 1, _ => ⟨lkX0, lkG_X0, yc_1, rfl⟩
  | 2, _ => ⟨lkX0, lkG_X0, yc_2, rfl⟩
  | 3, _ => ⟨lkX0, lkG_X0, yc_3, rfl⟩
  | 4, _ => ⟨lkX0, lkG_X0, yc_4, rfl⟩
  | 5, _ => ⟨lkX0, lkG_X0, yc_5, rfl⟩
  | 6, _ => ⟨lkX0, lkG_X0, yc_6, rfl⟩
  | 7, _ => ⟨lkX0, lkG_X0, yc_7, rfl⟩
  | 8, _ => ⟨lkX0, lkG_X0, yc_8, rfl⟩
  | 9, _ => ⟨lkX0, lkG_X0, yc_9, rfl⟩
  | 10, _ => ⟨lkX0, lkG_X0, yc_10, rfl⟩
  | 11, _ => ⟨lkX0, lkG_X0, yc_11, rfl⟩
  | 12, _ => ⟨lkX0, lkG_X0, yc_12, rfl⟩
  | 13, _ => ⟨lkX0, lkG_X0, yc_13, rfl⟩
  | 14, _ => ⟨lkX0, lkG_X0, yc_14, rfl⟩
  | 15, _ => ⟨lkX0, lkG_X0, yc_15, rfl⟩
  | 16, _ => ⟨lkX0, lkG_X0, yc_16, rfl⟩
  | 17, _ => ⟨lkX0, lkG_X0, yc_17, rfl⟩
  | 18, _ => ⟨lkX0, lkG_X0, yc_18, rfl⟩
  | 19, _ => ⟨lkX0, lkG_X0, yc_19, rfl⟩
  | 20, _ => ⟨lkX0, lkG_X0, yc_20, rfl⟩
  | 21, _ => ⟨lkX0, lkG_X0, yc_21, rfl⟩
  | 22, _ => ⟨lkX0, lkG_X0, yc_22, rfl⟩
  | 23, _ => ⟨lkX0, lkG_X0, yc_23, rfl⟩
  | 24, _ => ⟨lkX0, lkG_X0, yc_24, rfl⟩
  | 25, _ => ⟨lkX0, lkG_X0, yc_25, rfl⟩
  | 26, _ => ⟨lkX0, lkG_X0, yc_26, rfl⟩
  | 27, _ => ⟨lkX0, lkG_X0, yc_27, rfl⟩
  | 28, _ => ⟨lkX1, lkG_X1, yc_28, rfl⟩
  | 29, _ => ⟨lkX1, lkG_X1, yc_29, rfl⟩
  | 30, _ => ⟨lkX1, lkG_X1, yc_30, rfl⟩
  | 31, _ => ⟨lkX1, lkG_X1, yc_31, rfl⟩
  | 32, _ => ⟨lkX1, lkG_X1, yc_32, rfl⟩
  | 33, _ => ⟨lkX1, lkG_X1, yc_33, rfl⟩
  | 34, _ => ⟨lkX2, lkG_X2, yc_34, rfl⟩
  | 35, _ => ⟨lkX2, lkG_X2, yc_35, rfl⟩
  | 36, _ => ⟨lkX2, lkG_X2, yc_36, rfl⟩
  | 37, _ => ⟨lkX2, lkG_X2, yc_37, rfl⟩
  | 38, _ => ⟨lkX2, lkG_X2, yc_38, rfl⟩
  | 39, _ => ⟨lkX2, lkG_X2, yc_39, rfl⟩
  | 40, _ => ⟨lkX2, lkG_X2, yc_40, rfl⟩
  | 41, _ => ⟨lkX2, lkG_X2, yc_41, rfl⟩
  | 42, _ => ⟨lkX2, lkG_X2, yc_42, rfl⟩
  | 43, _ => ⟨lkX2, lkG_X2, yc_43, rfl⟩
  | 44, _ => ⟨lkX2, lkG_X2, yc_44, rfl⟩
  | 45, _ => ⟨lkX2, lkG_X2, yc_45, rfl⟩
  | 46, _ => ⟨lkX2, lkG_X2, yc_46, rfl⟩
  | 47, _ => ⟨lkX2, lkG_X2, yc_47, rfl⟩
  | 48, _ => ⟨lkX2, lkG_X2, yc_48, rfl⟩
  | 49, _ => ⟨lkX2, lkG_X2, yc_49, rfl⟩
  | 50, _ => ⟨lkX2, lkG_X2, yc_50, rfl⟩
  | 51, _ => ⟨lkX2, lkG_X2, yc_51, rfl⟩
  | 52, _ => ⟨lkX3, lkG_X3, yc_52, rfl⟩
  | 53, _ => ⟨lkX3, lkG_X3, yc_53, rfl⟩
  | 54, _ => ⟨lkX3, lkG_X3, yc_54, rfl⟩
  | 55, _ => ⟨lkX3, lkG_X3, yc_55, rfl⟩
  | 56, _ => ⟨lkX3, lkG_X3, yc_56, rfl⟩
  | 57, _ => ⟨lkX3, lkG_X3, yc_57, rfl⟩
  | 58, _ => ⟨lkX3, lkG_X3, yc_58, rfl⟩
  | 59, _ => ⟨lkX3, lkG_X3, yc_59, rfl⟩
  | 60, _ => ⟨lkX3, lkG_X3, yc_60, rfl⟩
  | 61, _ => ⟨lkX3, lkG_X3, yc_61, rfl⟩
  | 62, _ => ⟨lkX3, lkG_X3, yc_62, rfl⟩
  | 63, _ => ⟨lkX3, lkG_X3, yc_63, rfl⟩
  | 64, _ => ⟨lkX3, lkG_X3, yc_64, rfl⟩
  | 65, _ => ⟨lkX3, lkG_X3, yc_65, rfl⟩
  | 66, _ => ⟨lkX3, lkG_X3, yc_66, rfl⟩
  | 67, _ => ⟨lkX3, lkG_X3, yc_67, rfl⟩
  | 68, _ => ⟨lkX3, lkG_X3, yc_68, rfl⟩
  | 69, _ => ⟨lkX3, lkG_X3, yc_69, rfl⟩
  | 70, _ => ⟨lkX3, lkG_X3, yc_70, rfl⟩
  | 71, _ => ⟨lkX3, lkG_X3, yc_71, rfl⟩
  | 72, _ => ⟨lkX3, lkG_X3, yc_72, rfl⟩
  | 73, _ => ⟨lkX3, lkG_X3, yc_73, rfl⟩
  | 74, _ => ⟨lkX3, lkG_X3, yc_74, rfl⟩
  | 75, _ => ⟨lkX3, lkG_X3, yc_75, rfl⟩
  | 76, _ => ⟨lkX3, lkG_X3, yc_76, rfl⟩
  | 77, _ => ⟨lkX3, lkG_X3, yc_77, rfl⟩
  | 78, _ => ⟨lkX3, lkG_X3, yc_78, rfl⟩
  | 79, _ => ⟨lkX3, lkG_X3, yc_79, rfl⟩
  | 80, _ => ⟨lkX3, lkG_X3, yc_80, rfl⟩
  | 81, _ => ⟨lkX3, lkG_X3, yc_81, rfl⟩
  | 82, _ => ⟨lkX3, lkG_X3, yc_82, rfl⟩
  | 83, _ => ⟨lkX3, lkG_X3, yc_83, rfl⟩
  | 84, _ => ⟨lkX3, lkG_X3, yc_84, rfl⟩
  | 85, _ => ⟨lkX3, lkG_X3, yc_85, rfl⟩
  | 86, _ => ⟨lkX3, lkG_X3, yc_86, rfl⟩
  | 87, _ => ⟨lkX3, lkG_X3, yc_87, rfl⟩
  | 88, _ => ⟨lkX3, lkG_X3, yc_88, rfl⟩
  | 89, _ => ⟨lkX3, lkG_X3, yc_89, rfl⟩
  | 90, _ => ⟨lkX3, lkG_X3, yc_90, rfl⟩
  | 91, _ => ⟨lkX3, lkG_X3, yc_91, rfl⟩
  | 92, _ => ⟨lkX3, lkG_X3, yc_92, rfl⟩
  | 93, _ => ⟨lkX3, lkG_X3, yc_93, rfl⟩
  | 94, _ => ⟨lkX3, lkG_X3, yc_94, rfl⟩
  | 95, _ => ⟨lkX3, lkG_X3, yc_95, rfl⟩
  | 96, _ => ⟨lkX3, lkG_X3, yc_96, rfl⟩
  | 97, _ => ⟨lkX3, lkG_X3, yc_97, rfl⟩
  | 98, _ => ⟨lkX3, lkG_X3, yc_98, rfl⟩
  | 99, _ => ⟨lkX3, lkG_X3, yc_99, rfl⟩
  | 100, _ => ⟨lkX4, lkG_X4, yc_100, rfl⟩
  | 101, _ => ⟨lkX4, lkG_X4, yc_101, rfl⟩
  | 102, _ => ⟨lkX4, lkG_X4, yc_102, rfl⟩
  | 103, _ => ⟨lkX4, lkG_X4, yc_103, rfl⟩
  | 104, _ => ⟨lkX4, lkG_X4, yc_104, rfl⟩
  | 105, _ => ⟨lkX4, lkG_X4, yc_105, rfl⟩
  | 106, _ => ⟨lkX4, lkG_X4, yc_106, rfl⟩
  | 107, _ => ⟨lkX4, lkG_X4, yc_107, rfl⟩
  | 108, _ => ⟨lkX4, lkG_X4, yc_108, rfl⟩
  | 109, _ => ⟨lkX4, lkG_X4, yc_109, rfl⟩
  | 110, _ => ⟨lkX4, lkG_X4, yc_110, rfl⟩
  | 111, _ => ⟨lkX4, lkG_X4, yc_111, rfl⟩
  | 112, _ => ⟨lkX4, lkG_X4, yc_112, rfl⟩
  | 113, _ => ⟨lkX4, lkG_X4, yc_113, rfl⟩
  | 114, _ => ⟨lkX4, lkG_X4, yc_114, rfl⟩
  | 115, _ => ⟨lkX4, lkG_X4, yc_115, rfl⟩
  | 116, _ => ⟨lkX4, lkG_X4, yc_116, rfl⟩
  | 117, _ => ⟨lkX4, lkG_X4, yc_117, rfl⟩
  | 118, _ => ⟨lkX4, lkG_X4, yc_118, rfl⟩
  | 119, _ => ⟨lkX4, lkG_X4, yc_119, rfl⟩
  | 120, _ => ⟨lkX4, lkG_X4, yc_120, rfl⟩
  | 121, _ => ⟨lkX4, lkG_X4, yc_121, rfl⟩
  | 122, _ => ⟨lkX4, lkG_X4, yc_122, rfl⟩
  | 123, _ => ⟨lkX4, lkG_X4, yc_123, rfl⟩
  | 124, _ => ⟨lkX4, lkG_X4, yc_124, rfl⟩
  | 125, _ => ⟨lkX4, lkG_X4, yc_125, rfl⟩
  | 126, _ => ⟨lkX4, lkG_X4, yc_126, rfl⟩
  | 127, _ => ⟨lkX4, lkG_X4, yc_127, rfl⟩
  | 128, _ => ⟨lkX4, lkG_X4, yc_128, rfl⟩
  | 129, _ => ⟨lkX4, lkG_X4, yc_129, rfl⟩
  | 130, _ => ⟨lkX4, lkG_X4, yc_130, rfl⟩
  | 131, _ => ⟨lkX4, lkG_X4, yc_131, rfl⟩
  | 132, _ => ⟨lkX4, lkG_X4, yc_132, rfl⟩
  | 133, _ => ⟨lkX4, lkG_X4, yc_133, rfl⟩
  | 134, _ => ⟨lkX4, lkG_X4, yc_134, rfl⟩
  | 135, _ => ⟨lkX4, lkG_X4, yc_135, rfl⟩
  | 136, _ => ⟨lkX4, lkG_X4, yc_136, rfl⟩
  | 137, _ => ⟨lkX4, lkG_X4, yc_137, rfl⟩
  | 138, _ => ⟨lkX4, lkG_X4, yc_138, rfl⟩
  | 139, _ => ⟨lkX4, lkG_X4, yc_139, rfl⟩
  | 140, _ => ⟨lkX4, lkG_X4, yc_140, rfl⟩
  | 141, _ => ⟨lkX4, lkG_X4, yc_141, rfl⟩
  | 142, _ => ⟨lkX4, lkG_X4, yc_142, rfl⟩
  | 143, _ => ⟨lkX4, lkG_X4, yc_143, rfl⟩
  | 144, _ => ⟨lkX4, lkG_X4, yc_144, rfl⟩
  | 145, _ => ⟨lkX4, lkG_X4, yc_145, rfl⟩
  | 146, _ => ⟨lkX4, lkG_X4, yc_146, rfl⟩
  | 147, _ => ⟨lkX4, lkG_X4, yc_147, rfl⟩
  | 148, _ => ⟨lkX4, lkG_X4, yc_148, rfl⟩
  | 149, _ => ⟨lkX4, lkG_X4, yc_149, rfl⟩
  | 150, _ => ⟨lkX4, lkG_X4, yc_150, rfl⟩
  | 151, _ => ⟨lkX4, lkG_X4, yc_151, rfl⟩
  | 152, _ => ⟨lkX4, lkG_X4, yc_152, rfl⟩
  | 153, _ => ⟨lkX4, lkG_X4, yc_153, rfl⟩
  | 154, _ => ⟨lkX4, lkG_X4, yc_154, rfl⟩
  | 155, _ => ⟨lkX4, lkG_X4, yc_155, rfl⟩
  | 156, _ => ⟨lkX4, lkG_X4, yc_156, rfl⟩
  | 157, _ => ⟨lkX4, lkG_X4, yc_157, rfl⟩
  | 158, _ => ⟨lkX4, lkG_X4, yc_158, rfl⟩
  | 159, _ => ⟨lkX4, lkG_X4, yc_159, rfl⟩
  | 160, _ => ⟨lkX4, lkG_X4, yc_160, rfl⟩
  | 161, _ => ⟨lkX4, lkG_X4, yc_161, rfl⟩
  | 162, _ => ⟨lkX4, lkG_X4, yc_162, rfl⟩
  | 163, _ => ⟨lkX4, lkG_X4, yc_163, rfl⟩
  | 164, _ => ⟨lkX4, lkG_X4, yc_164, rfl⟩
  | 165, _ => ⟨lkX4, lkG_X4, yc_165, rfl⟩
  | 166, _ => ⟨lkX4, lkG_X4, yc_166, rfl⟩
  | 167, _ => ⟨lkX4, lkG_X4, yc_167, rfl⟩
  | 168, _ => ⟨lkX4, lkG_X4, yc_168, rfl⟩
  | 169, _ => ⟨lkX4, lkG_X4, yc_169, rfl⟩
  | 170, _ => ⟨lkX4, lkG_X4, yc_170, rfl⟩
  | 171, _ => ⟨lkX4, lkG_X4, yc_171, rfl⟩
  | 172, _ => ⟨lkX4, lkG_X4, yc_172, rfl⟩
  | 173, _ => ⟨lkX4, lkG_X4, yc_173, rfl⟩
  | 174, _ => ⟨lkX4, lkG_X4, yc_174, rfl⟩
  | 175, _ => ⟨lkX4, lkG_X4, yc_175, rfl⟩
  | 176, _ => ⟨lkX4, lkG_X4, yc_176, rfl⟩
  | 177, _ => ⟨lkX4, lkG_X4, yc_177, rfl⟩
  | 178, _ => ⟨lkX4, lkG_X4, yc_178, rfl⟩
  | 179, _ => ⟨lkX4, lkG_X4, yc_179, rfl⟩
  | 180, _ => ⟨lkX4, lkG_X4, yc_180, rfl⟩
  | 181, _ => ⟨lkX4, lkG_X4, yc_181, rfl⟩
  | 182, _ => ⟨lkX4, lkG_X4, yc_182, rfl⟩
  | 183, _ => ⟨lkX4, lkG_X4, yc_183, rfl⟩
  | 184, _ => ⟨lkX4, lkG_X4, yc_184, rfl⟩
  | 185, _ => ⟨lkX4, lkG_X4, yc_185, rfl⟩
  | 186, _ => ⟨lkX4, lkG_X4, yc_186, rfl⟩
  | 187, _ => ⟨lkX4, lkG_X4, yc_187, rfl⟩
  | 188, _ => ⟨lkX4, lkG_X4, yc_188, rfl⟩
  | 189, _ => ⟨lkX4, lkG_X4, yc_189, rfl⟩
  | 190, _ => ⟨lkX4, lkG_X4, yc_190, rfl⟩
  | 191, _ => ⟨lkJ13, lkG_J13, yc_191, rfl⟩
  | 192, _ => ⟨lkJ7, lkG_J7, yc_192, rfl⟩
  | 193, _ => ⟨lkJ7, lkG_J7, yc_193, rfl⟩
  | 194, _ => ⟨lkJ7, lkG_J7, yc_194, rfl⟩
  | n + 195, h => absurd h (by omega)
