/-! ===== the law's listing, joined ===== -/
theorem ycj_72 : (md_L_law.zipIdx.drop 72).all okLB = true := all_cut (L := md_L_law.zipIdx) (f := okLB) (a := 72) (n := 6) (k := 78) rfl ycl_72 ycl_end
theorem ycj_66 : (md_L_law.zipIdx.drop 66).all okLB = true := all_cut (L := md_L_law.zipIdx) (f := okLB) (a := 66) (n := 6) (k := 72) rfl ycl_66 ycj_72
theorem ycj_60 : (md_L_law.zipIdx.drop 60).all okLB = true := all_cut (L := md_L_law.zipIdx) (f := okLB) (a := 60) (n := 6) (k := 66) rfl ycl_60 ycj_66
theorem ycj_54 : (md_L_law.zipIdx.drop 54).all okLB = true := all_cut (L := md_L_law.zipIdx) (f := okLB) (a := 54) (n := 6) (k := 60) rfl ycl_54 ycj_60
theorem ycj_48 : (md_L_law.zipIdx.drop 48).all okLB = true := all_cut (L := md_L_law.zipIdx) (f := okLB) (a := 48) (n := 6) (k := 54) rfl ycl_48 ycj_54
theorem ycj_42 : (md_L_law.zipIdx.drop 42).all okLB = true := all_cut (L := md_L_law.zipIdx) (f := okLB) (a := 42) (n := 6) (k := 48) rfl ycl_42 ycj_48
theorem ycj_36 : (md_L_law.zipIdx.drop 36).all okLB = true := all_cut (L := md_L_law.zipIdx) (f := okLB) (a := 36) (n := 6) (k := 42) rfl ycl_36 ycj_42
theorem ycj_30 : (md_L_law.zipIdx.drop 30).all okLB = true := all_cut (L := md_L_law.zipIdx) (f := okLB) (a := 30) (n := 6) (k := 36) rfl ycl_30 ycj_36
theorem ycj_24 : (md_L_law.zipIdx.drop 24).all okLB = true := all_cut (L := md_L_law.zipIdx) (f := okLB) (a := 24) (n := 6) (k := 30) rfl ycl_24 ycj_30
theorem ycj_18 : (md_L_law.zipIdx.drop 18).all okLB = true := all_cut (L := md_L_law.zipIdx) (f := okLB) (a := 18) (n := 6) (k := 24) rfl ycl_18 ycj_24
theorem ycj_12 : (md_L_law.zipIdx.drop 12).all okLB = true := all_cut (L := md_L_law.zipIdx) (f := okLB) (a := 12) (n := 6) (k := 18) rfl ycl_12 ycj_18
theorem ycj_6 : (md_L_law.zipIdx.drop 6).all okLB = true := all_cut (L := md_L_law.zipIdx) (f := okLB) (a := 6) (n := 6) (k := 12) rfl ycl_6 ycj_12
theorem ycj_0 : (md_L_law.zipIdx.drop 0).all okLB = true := all_cut (L := md_L_law.zipIdx) (f := okLB) (a := 0) (n := 6) (k := 6) rfl ycl_0 ycj_6
theorem yc_law : okC lkZ RZ code 4 (some .boolean) md_L_law = true := by
  have h := ycj_0
  rw [List.drop_zero] at h
  unfold okC
  exact h
