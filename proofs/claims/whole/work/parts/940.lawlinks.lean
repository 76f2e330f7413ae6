/-! ===== the links of the law itself ===== -/
abbrev RZ : String := "TornLayersLaw"
def lkZ : mLk := ([], [(13, 0, 52, 2), (17, 0, 112, 2), (18, 0, 53, 3), (22, 0, 178, 3), (23, 0, 54, 3), (26, 0, 113, 3), (27, 0, 55, 3), (30, 0, 114, 3), (31, 0, 56, 3), (34, 0, 115, 3), (35, 0, 57, 2), (38, 0, 116, 2), (39, 0, 58, 4), (43, 0, 149, 4), (44, 0, 59, 2), (47, 0, 150, 2), (48, 0, 60, 2), (51, 0, 151, 2), (52, 0, 61, 2), (55, 0, 152, 2), (56, 0, 62, 3), (59, 0, 153, 3), (60, 0, 63, 2), (63, 0, 154, 2), (64, 0, 64, 4), (67, 0, 155, 4), (68, 0, 65, 1), (72, 0, 156, 1), (73, 0, 66, 2), (76, 0, 157, 2), (77, 0, 67, 3), (80, 0, 158, 3), (81, 0, 68, 3), (84, 0, 159, 3), (85, 0, 69, 2), (89, 0, 160, 2), (90, 0, 70, 1), (93, 0, 161, 1), (94, 0, 71, 2), (97, 0, 164, 2), (98, 0, 72, 2), (101, 0, 165, 2), (102, 0, 73, 2), (105, 0, 166, 2), (106, 0, 74, 2), (109, 0, 168, 2), (110, 0, 75, 1), (113, 0, 169, 1), (114, 0, 76, 3), (117, 0, 171, 3), (118, 0, 77, 5), (122, 0, 173, 5), (123, 0, 78, 4), (126, 0, 174, 4), (127, 0, 79, 4), (130, 0, 175, 4), (131, 0, 80, 2), (134, 0, 177, 2), (137, 0, 81, 3), (141, 0, 179, 3), (142, 0, 82, 1), (145, 0, 180, 1), (146, 0, 83, 1), (149, 0, 186, 1), (150, 0, 84, 1), (153, 0, 187, 1), (154, 0, 85, 1), (157, 0, 188, 1), (158, 0, 86, 2), (161, 0, 189, 2), (162, 0, 87, 2), (165, 0, 190, 2)], [], [(135, 4294967295)], [])
theorem lk_Z_f0 : (([] : List (Nat × Nat × Nat)).all (fun q => fldB RZ q.1 q.2.1 q.2.2)) = true := by decide +kernel
theorem lk_Z_f : ∀ q ∈ lkZ.1, fldB RZ q.1 q.2.1 q.2.2 = true := List.all_eq_true.mp lk_Z_f0
theorem lk_Z_m0 : (([(13, 0, 52, 2), (17, 0, 112, 2), (18, 0, 53, 3), (22, 0, 178, 3), (23, 0, 54, 3), (26, 0, 113, 3), (27, 0, 55, 3), (30, 0, 114, 3), (31, 0, 56, 3), (34, 0, 115, 3), (35, 0, 57, 2), (38, 0, 116, 2)] : List (Nat × Nat × Nat × Nat)).all (fun q => lnkB RZ q.1 q.2.1 q.2.2.1 q.2.2.2)) = true := by decide +kernel
theorem lk_Z_m1 : (([(39, 0, 58, 4), (43, 0, 149, 4), (44, 0, 59, 2), (47, 0, 150, 2), (48, 0, 60, 2), (51, 0, 151, 2), (52, 0, 61, 2), (55, 0, 152, 2), (56, 0, 62, 3), (59, 0, 153, 3), (60, 0, 63, 2), (63, 0, 154, 2)] : List (Nat × Nat × Nat × Nat)).all (fun q => lnkB RZ q.1 q.2.1 q.2.2.1 q.2.2.2)) = true := by decide +kernel
theorem lk_Z_m2 : (([(64, 0, 64, 4), (67, 0, 155, 4), (68, 0, 65, 1), (72, 0, 156, 1), (73, 0, 66, 2), (76, 0, 157, 2), (77, 0, 67, 3), (80, 0, 158, 3), (81, 0, 68, 3), (84, 0, 159, 3), (85, 0, 69, 2), (89, 0, 160, 2)] : List (Nat × Nat × Nat × Nat)).all (fun q => lnkB RZ q.1 q.2.1 q.2.2.1 q.2.2.2)) = true := by decide +kernel
theorem lk_Z_m3 : (([(90, 0, 70, 1), (93, 0, 161, 1), (94, 0, 71, 2), (97, 0, 164, 2), (98, 0, 72, 2), (101, 0, 165, 2), (102, 0, 73, 2), (105, 0, 166, 2), (106, 0, 74, 2), (109, 0, 168, 2), (110, 0, 75, 1), (113, 0, 169, 1)] : List (Nat × Nat × Nat × Nat)).all (fun q => lnkB RZ q.1 q.2.1 q.2.2.1 q.2.2.2)) = true := by decide +kernel
theorem lk_Z_m4 : (([(114, 0, 76, 3), (117, 0, 171, 3), (118, 0, 77, 5), (122, 0, 173, 5), (123, 0, 78, 4), (126, 0, 174, 4), (127, 0, 79, 4), (130, 0, 175, 4), (131, 0, 80, 2), (134, 0, 177, 2), (137, 0, 81, 3), (141, 0, 179, 3)] : List (Nat × Nat × Nat × Nat)).all (fun q => lnkB RZ q.1 q.2.1 q.2.2.1 q.2.2.2)) = true := by decide +kernel
theorem lk_Z_m5 : (([(142, 0, 82, 1), (145, 0, 180, 1), (146, 0, 83, 1), (149, 0, 186, 1), (150, 0, 84, 1), (153, 0, 187, 1), (154, 0, 85, 1), (157, 0, 188, 1), (158, 0, 86, 2), (161, 0, 189, 2), (162, 0, 87, 2), (165, 0, 190, 2)] : List (Nat × Nat × Nat × Nat)).all (fun q => lnkB RZ q.1 q.2.1 q.2.2.1 q.2.2.2)) = true := by decide +kernel
theorem lk_Z_m : ∀ q ∈ lkZ.2.1, lnkB RZ q.1 q.2.1 q.2.2.1 q.2.2.2 = true := all_app (l1 := [(13, 0, 52, 2), (17, 0, 112, 2), (18, 0, 53, 3), (22, 0, 178, 3), (23, 0, 54, 3), (26, 0, 113, 3), (27, 0, 55, 3), (30, 0, 114, 3), (31, 0, 56, 3), (34, 0, 115, 3), (35, 0, 57, 2), (38, 0, 116, 2)]) lk_Z_m0 (all_app (l1 := [(39, 0, 58, 4), (43, 0, 149, 4), (44, 0, 59, 2), (47, 0, 150, 2), (48, 0, 60, 2), (51, 0, 151, 2), (52, 0, 61, 2), (55, 0, 152, 2), (56, 0, 62, 3), (59, 0, 153, 3), (60, 0, 63, 2), (63, 0, 154, 2)]) lk_Z_m1 (all_app (l1 := [(64, 0, 64, 4), (67, 0, 155, 4), (68, 0, 65, 1), (72, 0, 156, 1), (73, 0, 66, 2), (76, 0, 157, 2), (77, 0, 67, 3), (80, 0, 158, 3), (81, 0, 68, 3), (84, 0, 159, 3), (85, 0, 69, 2), (89, 0, 160, 2)]) lk_Z_m2 (all_app (l1 := [(90, 0, 70, 1), (93, 0, 161, 1), (94, 0, 71, 2), (97, 0, 164, 2), (98, 0, 72, 2), (101, 0, 165, 2), (102, 0, 73, 2), (105, 0, 166, 2), (106, 0, 74, 2), (109, 0, 168, 2), (110, 0, 75, 1), (113, 0, 169, 1)]) lk_Z_m3 (all_app (l1 := [(114, 0, 76, 3), (117, 0, 171, 3), (118, 0, 77, 5), (122, 0, 173, 5), (123, 0, 78, 4), (126, 0, 174, 4), (127, 0, 79, 4), (130, 0, 175, 4), (131, 0, 80, 2), (134, 0, 177, 2), (137, 0, 81, 3), (141, 0, 179, 3)]) lk_Z_m4 (List.all_eq_true.mp lk_Z_m5)))))
theorem lk_Z_c0 : (([] : List (Nat × Nat)).all (fun q => cstB RZ q.1 q.2)) = true := by decide +kernel
theorem lk_Z_c : ∀ q ∈ lkZ.2.2.1, cstB RZ q.1 q.2 = true := List.all_eq_true.mp lk_Z_c0
theorem lk_Z_l0 : (([(135, 4294967295)] : List (Nat × Nat)).all (fun q => lngB RZ q.1 q.2)) = true := by decide +kernel
theorem lk_Z_l : ∀ q ∈ lkZ.2.2.2.1, lngB RZ q.1 q.2 = true := List.all_eq_true.mp lk_Z_l0
theorem lk_Z_a0 : (([] : List Nat).all (fun q => acpB RZ q)) = true := by decide +kernel
theorem lk_Z_a : ∀ q ∈ lkZ.2.2.2.2, acpB RZ q = true := List.all_eq_true.mp lk_Z_a0
theorem lkG_Z : lkG RZ lkZ := lkG_of lk_Z_f lk_Z_m lk_Z_c lk_Z_l lk_Z_a
def okLB (q : mB × Nat) : Bool := okB lkZ RZ code 4 (some .boolean) md_L_law q.2 q.1.2
theorem all_cut {α : Type} {L : List α} {f : α → Bool} {a n k : Nat} (hk : a + n = k) (h1 : ((L.drop a).take n).all f = true) (h2 : (L.drop k).all f = true) : (L.drop a).all f = true := by
  subst hk
  rw [← List.take_append_drop n (L.drop a), List.all_append, h1, List.drop_drop, h2]
  rfl
theorem ycl_0 : ((md_L_law.zipIdx.drop 0).take 6).all okLB = true := by decide +kernel
theorem ycl_6 : ((md_L_law.zipIdx.drop 6).take 6).all okLB = true := by decide +kernel
theorem ycl_12 : ((md_L_law.zipIdx.drop 12).take 6).all okLB = true := by decide +kernel
theorem ycl_18 : ((md_L_law.zipIdx.drop 18).take 6).all okLB = true := by decide +kernel
theorem ycl_24 : ((md_L_law.zipIdx.drop 24).take 6).all okLB = true := by decide +kernel
theorem ycl_30 : ((md_L_law.zipIdx.drop 30).take 6).all okLB = true := by decide +kernel
theorem ycl_36 : ((md_L_law.zipIdx.drop 36).take 6).all okLB = true := by decide +kernel
theorem ycl_42 : ((md_L_law.zipIdx.drop 42).take 6).all okLB = true := by decide +kernel
theorem ycl_48 : ((md_L_law.zipIdx.drop 48).take 6).all okLB = true := by decide +kernel
theorem ycl_54 : ((md_L_law.zipIdx.drop 54).take 6).all okLB = true := by decide +kernel
theorem ycl_60 : ((md_L_law.zipIdx.drop 60).take 6).all okLB = true := by decide +kernel
theorem ycl_66 : ((md_L_law.zipIdx.drop 66).take 6).all okLB = true := by decide +kernel
theorem ycl_72 : ((md_L_law.zipIdx.drop 72).take 6).all okLB = true := by decide +kernel
theorem ycl_end : (md_L_law.zipIdx.drop 78).all okLB = true := by decide +kernel
