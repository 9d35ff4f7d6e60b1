noncomputable def si_tb : List Cond := lw_tbl.filter goodWord
theorem si_at {i : Nat} {w : Cond} (h : (decide (lw_tbl[i]? = some w) && goodWord w) = true) : w ∈ si_tb := by
  simp only [Bool.and_eq_true, decide_eq_true_eq] at h
  exact List.mem_filter.mpr ⟨List.mem_of_getElem? h.1, h.2⟩
theorem si_zip {α : Type} {l : List α} {li : List Nat} (hl : l.length = li.length) {p : α × Nat → Bool} (h : (l.zip li).all p = true) {q : α} (hq : q ∈ l) : ∃ i, p (q, i) = true := by
  obtain ⟨k, hk⟩ := List.getElem?_of_mem hq
  have hk1 : k < l.length := (List.getElem?_eq_some_iff.mp hk).1
  refine ⟨li[k]'(by omega), List.all_eq_true.mp h _ ?_⟩
  refine List.mem_of_getElem? (i := k) ?_
  rw [List.getElem?_zip_eq_some]
  exact ⟨hk, List.getElem?_eq_getElem (by omega)⟩
noncomputable def si_flc (q : Nat × Nat × Nat × Nat × Nat) : Cond := bif Nat.beq q.2.2.2.2 0 then .fieldLink (si_R q.1) q.2.1 (si_T q.2.2.1 q.2.2.2.1).1 (si_T q.2.2.1 q.2.2.2.1).2.1 (si_T q.2.2.1 q.2.2.2.1).2.2.1 else .fieldLinkNest (si_R q.1) q.2.1 (si_T q.2.2.1 q.2.2.2.1).1 (si_T q.2.2.1 q.2.2.2.1).2.1 (si_T q.2.2.1 q.2.2.2.1).2.2.1 "FourYearsForAStrip"
theorem si_fl_ok_a : (si_FL.zip si_FLi).all (fun q => decide (lw_tbl[q.2]? = some (si_flc q.1)) && (!Nat.beq q.1.2.2.2.2 0 || goodWord (si_flc q.1))) = true := by decide +kernel
theorem si_fl_ok {q : Nat × Nat × Nat × Nat × Nat} (h : q ∈ si_FL) : si_flc q ∈ lw_tbl ∧ (Nat.beq q.2.2.2.2 0 = true → si_flc q ∈ si_tb) := by
  obtain ⟨i, hi⟩ := si_zip (li := si_FLi) (by decide +kernel) si_fl_ok_a h
  simp only [Bool.and_eq_true, decide_eq_true_eq] at hi
  refine ⟨List.mem_of_getElem? hi.1, fun e => List.mem_filter.mpr ⟨List.mem_of_getElem? hi.1, ?_⟩⟩
  have h2 := hi.2
  rw [e] at h2
  exact h2
def si_jY (k : Nat) : MethodName := bif Nat.beq k 2 then Lib.Math.max.name else bif Nat.beq k 3 then Lib.Math.min.name else bif Nat.beq k 4 then arraycopyName else bif Nat.beq k 5 then yJ0_length_8abf5 else yJ0_charAt_5068e
noncomputable def si_mlc (q : Nat × Nat × Nat × Nat) : Cond := .methodLink (si_R q.1) q.2.1 (bif Nat.ble q.2.2.1 1 then si_mY q.2.2.2 else si_jY q.2.2.1)
theorem si_ml_ok_a : (si_ML.zip si_MLi).all (fun q => decide (lw_tbl[q.2]? = some (si_mlc q.1)) && goodWord (si_mlc q.1)) = true := by decide +kernel
theorem si_ml_ok {q : Nat × Nat × Nat × Nat} (h : q ∈ si_ML) : si_mlc q ∈ si_tb := by
  obtain ⟨i, hi⟩ := si_zip (li := si_MLi) (by decide +kernel) si_ml_ok_a h
  exact si_at hi
noncomputable def si_cic (q : Nat × Nat × Int32) : Cond := .constant (si_R q.1) q.2.1 q.2.2
theorem si_ci_ok_a : (si_CI.zip si_CIi).all (fun q => decide (lw_tbl[q.2]? = some (si_cic q.1)) && goodWord (si_cic q.1)) = true := by decide +kernel
theorem si_ci_ok {q : Nat × Nat × Int32} (h : q ∈ si_CI) : si_cic q ∈ si_tb := by
  obtain ⟨i, hi⟩ := si_zip (li := si_CIi) (by decide +kernel) si_ci_ok_a h
  exact si_at hi
noncomputable def si_clc (q : Nat × Nat × Nat) : Cond := .constantLong (si_R q.1) q.2.1 (si_c64 q.2.2)
theorem si_cl_ok_a : (si_CL.zip si_CLi).all (fun q => decide (lw_tbl[q.2]? = some (si_clc q.1)) && goodWord (si_clc q.1)) = true := by decide +kernel
theorem si_cl_ok {q : Nat × Nat × Nat} (h : q ∈ si_CL) : si_clc q ∈ si_tb := by
  obtain ⟨i, hi⟩ := si_zip (li := si_CLi) (by decide +kernel) si_cl_ok_a h
  exact si_at hi
noncomputable def si_cdc (j : Nat) : Cond := .code (si_mY j) (si_mB j) (si_mL j) (si_mR j)
noncomputable def si_imc (j : Nat) : Cond := .instanceMethod (si_mY j)
noncomputable def si_slc (j : Nat) : Cond := .selects (si_R (si_mO j)) (si_mY j) (si_mY j)
noncomputable def si_stc (j : Nat) : Cond := .static (si_mY j)
noncomputable def si_inc (j : Nat) : Cond := .initialized (si_R (si_mO j))
def si_JV : List Nat := [1, 2, 3, 4, 5, 7, 8, 9, 11, 13, 14, 15, 16, 17, 18, 19, 20, 21, 22, 23, 24, 25, 26, 27, 28, 29, 30, 31, 32, 33, 34, 35, 36, 37, 39, 40, 41, 42, 43, 44, 45, 46, 47, 48, 49, 50, 51, 53, 54, 55, 56, 57, 58, 60, 61, 62, 64, 65, 66, 67, 69, 71, 72, 73, 78, 79, 80, 81, 82, 83, 84, 85, 86, 87, 88, 89, 91, 92, 93, 94, 95, 97, 98, 99, 100, 101, 103, 104, 105, 106, 107, 108, 109, 110, 112, 113, 114, 115, 116, 117, 118, 119, 121, 126, 129, 130, 131, 132, 134, 135, 136, 137, 138, 139, 140, 141, 142, 143, 144, 145, 146, 147, 148, 149, 150, 151, 152, 153, 154, 155, 156, 157, 158, 159, 160, 161, 162, 163, 164, 165, 166, 167, 168, 169, 170, 171, 172, 173, 174, 175, 176, 177, 178, 179, 180, 181, 182, 183, 184, 185, 186, 187, 188, 189, 190, 191, 192, 193, 194, 195, 196, 197, 198, 199, 200, 201, 202, 203, 204, 205, 206, 207, 208, 209, 210, 211, 212, 213, 214, 215, 216, 217, 218, 220, 221, 222, 223, 224, 225, 226, 227, 228, 229, 230, 231, 233]
def si_JS : List Nat := [10, 63, 68, 70, 75, 76, 77, 90, 96, 102, 111, 120, 122, 123, 127, 128, 133, 219, 232]
def si_JA_0 : List Nat := [1, 2, 3, 4, 5, 7, 8, 9, 10, 11, 13, 14, 15, 16, 17, 18, 19, 20, 21, 22]
def si_JA_1 : List Nat := [23, 24, 25, 26, 27, 28, 29, 30, 31, 32, 33, 34, 35, 36, 37, 39, 40, 41, 42, 43]
def si_JA_2 : List Nat := [44, 45, 46, 47, 48, 49, 50, 51, 53, 54, 55, 56, 57, 58, 60, 61, 62, 63, 64, 65]
def si_JA_3 : List Nat := [66, 67, 68, 69, 70, 71, 72, 73, 75, 76, 77, 78, 79, 80, 81, 82, 83, 84, 85, 86]
def si_JA_4 : List Nat := [87, 88, 89, 90, 91, 92, 93, 94, 95, 96, 97, 98, 99, 100, 101, 102, 103, 104, 105, 106]
def si_JA_5 : List Nat := [107, 108, 109, 110, 111, 112, 113, 114, 115, 116, 117, 118, 119, 120, 121, 122, 123, 126, 127, 128]
def si_JA_6 : List Nat := [129, 130, 131, 132, 133, 134, 135, 136, 137, 138, 139, 140, 141, 142, 143, 144, 145, 146, 147, 148]
def si_JA_7 : List Nat := [149, 150, 151, 152, 153, 154, 155, 156, 157, 158, 159, 160, 161, 162, 163, 164, 165, 166, 167, 168]
def si_JA_8 : List Nat := [169, 170, 171, 172, 173, 174, 175, 176, 177, 178, 179, 180, 181, 182, 183, 184, 185, 186, 187, 188]
def si_JA_9 : List Nat := [189, 190, 191, 192, 193, 194, 195, 196, 197, 198, 199, 200, 201, 202, 203, 204, 205, 206, 207, 208]
def si_JA_10 : List Nat := [209, 210, 211, 212, 213, 214, 215, 216, 217, 218, 219, 220, 221, 222, 223, 224, 225, 226, 227, 228]
def si_JA_11 : List Nat := [229, 230, 231, 232, 233]
def si_JA : List Nat := si_JA_0 ++ (si_JA_1 ++ (si_JA_2 ++ (si_JA_3 ++ (si_JA_4 ++ (si_JA_5 ++ (si_JA_6 ++ (si_JA_7 ++ (si_JA_8 ++ (si_JA_9 ++ (si_JA_10 ++ (si_JA_11)))))))))))
theorem si_cd1 : si_cdc 1 ∈ si_tb := si_at (i := 746) (by decide +kernel)
theorem si_cd2 : si_cdc 2 ∈ si_tb := si_at (i := 750) (by decide +kernel)
theorem si_cd3 : si_cdc 3 ∈ si_tb := si_at (i := 754) (by decide +kernel)
theorem si_cd4 : si_cdc 4 ∈ si_tb := si_at (i := 146) (by decide +kernel)
theorem si_cd5 : si_cdc 5 ∈ si_tb := si_at (i := 150) (by decide +kernel)
theorem si_cd7 : si_cdc 7 ∈ si_tb := si_at (i := 466) (by decide +kernel)
theorem si_cd8 : si_cdc 8 ∈ si_tb := si_at (i := 637) (by decide +kernel)
theorem si_cd9 : si_cdc 9 ∈ si_tb := si_at (i := 633) (by decide +kernel)
theorem si_cd10 : si_cdc 10 ∈ si_tb := si_at (i := 396) (by decide +kernel)
theorem si_cd11 : si_cdc 11 ∈ si_tb := si_at (i := 393) (by decide +kernel)
theorem si_cd13 : si_cdc 13 ∈ si_tb := si_at (i := 707) (by decide +kernel)
theorem si_cd14 : si_cdc 14 ∈ si_tb := si_at (i := 372) (by decide +kernel)
theorem si_cd15 : si_cdc 15 ∈ si_tb := si_at (i := 376) (by decide +kernel)
theorem si_cd16 : si_cdc 16 ∈ si_tb := si_at (i := 418) (by decide +kernel)
theorem si_cd17 : si_cdc 17 ∈ si_tb := si_at (i := 430) (by decide +kernel)
theorem si_cd18 : si_cdc 18 ∈ si_tb := si_at (i := 384) (by decide +kernel)
theorem si_cd19 : si_cdc 19 ∈ si_tb := si_at (i := 688) (by decide +kernel)
theorem si_cd20 : si_cdc 20 ∈ si_tb := si_at (i := 723) (by decide +kernel)
theorem si_cd21 : si_cdc 21 ∈ si_tb := si_at (i := 727) (by decide +kernel)
theorem si_cd22 : si_cdc 22 ∈ si_tb := si_at (i := 719) (by decide +kernel)
theorem si_cd23 : si_cdc 23 ∈ si_tb := si_at (i := 450) (by decide +kernel)
theorem si_cd24 : si_cdc 24 ∈ si_tb := si_at (i := 446) (by decide +kernel)
theorem si_cd25 : si_cdc 25 ∈ si_tb := si_at (i := 442) (by decide +kernel)
theorem si_cd26 : si_cdc 26 ∈ si_tb := si_at (i := 683) (by decide +kernel)
theorem si_cd27 : si_cdc 27 ∈ si_tb := si_at (i := 679) (by decide +kernel)
theorem si_cd28 : si_cdc 28 ∈ si_tb := si_at (i := 388) (by decide +kernel)
theorem si_cd29 : si_cdc 29 ∈ si_tb := si_at (i := 406) (by decide +kernel)
theorem si_cd30 : si_cdc 30 ∈ si_tb := si_at (i := 410) (by decide +kernel)
theorem si_cd31 : si_cdc 31 ∈ si_tb := si_at (i := 660) (by decide +kernel)
theorem si_cd32 : si_cdc 32 ∈ si_tb := si_at (i := 654) (by decide +kernel)
theorem si_cd33 : si_cdc 33 ∈ si_tb := si_at (i := 666) (by decide +kernel)
theorem si_cd34 : si_cdc 34 ∈ si_tb := si_at (i := 671) (by decide +kernel)
theorem si_cd35 : si_cdc 35 ∈ si_tb := si_at (i := 675) (by decide +kernel)
theorem si_cd36 : si_cdc 36 ∈ si_tb := si_at (i := 650) (by decide +kernel)
theorem si_cd37 : si_cdc 37 ∈ si_tb := si_at (i := 714) (by decide +kernel)
theorem si_cd39 : si_cdc 39 ∈ si_tb := si_at (i := 587) (by decide +kernel)
theorem si_cd40 : si_cdc 40 ∈ si_tb := si_at (i := 583) (by decide +kernel)
theorem si_cd41 : si_cdc 41 ∈ si_tb := si_at (i := 591) (by decide +kernel)
theorem si_cd42 : si_cdc 42 ∈ si_tb := si_at (i := 579) (by decide +kernel)
theorem si_cd43 : si_cdc 43 ∈ si_tb := si_at (i := 607) (by decide +kernel)
theorem si_cd44 : si_cdc 44 ∈ si_tb := si_at (i := 624) (by decide +kernel)
theorem si_cd45 : si_cdc 45 ∈ si_tb := si_at (i := 599) (by decide +kernel)
theorem si_cd46 : si_cdc 46 ∈ si_tb := si_at (i := 603) (by decide +kernel)
theorem si_cd47 : si_cdc 47 ∈ si_tb := si_at (i := 595) (by decide +kernel)
theorem si_cd48 : si_cdc 48 ∈ si_tb := si_at (i := 616) (by decide +kernel)
theorem si_cd49 : si_cdc 49 ∈ si_tb := si_at (i := 620) (by decide +kernel)
theorem si_cd50 : si_cdc 50 ∈ si_tb := si_at (i := 612) (by decide +kernel)
theorem si_cd51 : si_cdc 51 ∈ si_tb := si_at (i := 575) (by decide +kernel)
theorem si_cd53 : si_cdc 53 ∈ si_tb := si_at (i := 781) (by decide +kernel)
theorem si_cd54 : si_cdc 54 ∈ si_tb := si_at (i := 813) (by decide +kernel)
theorem si_cd55 : si_cdc 55 ∈ si_tb := si_at (i := 793) (by decide +kernel)
theorem si_cd56 : si_cdc 56 ∈ si_tb := si_at (i := 789) (by decide +kernel)
theorem si_cd57 : si_cdc 57 ∈ si_tb := si_at (i := 817) (by decide +kernel)
theorem si_cd58 : si_cdc 58 ∈ si_tb := si_at (i := 865) (by decide +kernel)
theorem si_cd60 : si_cdc 60 ∈ si_tb := si_at (i := 458) (by decide +kernel)
theorem si_cd61 : si_cdc 61 ∈ si_tb := si_at (i := 629) (by decide +kernel)
theorem si_cd62 : si_cdc 62 ∈ si_tb := si_at (i := 474) (by decide +kernel)
theorem si_cd63 : si_cdc 63 ∈ si_tb := si_at (i := 477) (by decide +kernel)
theorem si_cd64 : si_cdc 64 ∈ si_tb := si_at (i := 490) (by decide +kernel)
theorem si_cd65 : si_cdc 65 ∈ si_tb := si_at (i := 485) (by decide +kernel)
theorem si_cd66 : si_cdc 66 ∈ si_tb := si_at (i := 547) (by decide +kernel)
theorem si_cd67 : si_cdc 67 ∈ si_tb := si_at (i := 481) (by decide +kernel)
theorem si_cd68 : si_cdc 68 ∈ si_tb := si_at (i := 556) (by decide +kernel)
theorem si_cd69 : si_cdc 69 ∈ si_tb := si_at (i := 560) (by decide +kernel)
theorem si_cd70 : si_cdc 70 ∈ si_tb := si_at (i := 567) (by decide +kernel)
theorem si_cd71 : si_cdc 71 ∈ si_tb := si_at (i := 564) (by decide +kernel)
theorem si_cd72 : si_cdc 72 ∈ si_tb := si_at (i := 571) (by decide +kernel)
theorem si_cd73 : si_cdc 73 ∈ si_tb := si_at (i := 470) (by decide +kernel)
theorem si_cd75 : si_cdc 75 ∈ si_tb := si_at (i := 361) (by decide +kernel)
theorem si_cd76 : si_cdc 76 ∈ si_tb := si_at (i := 358) (by decide +kernel)
theorem si_cd77 : si_cdc 77 ∈ si_tb := si_at (i := 368) (by decide +kernel)
theorem si_cd78 : si_cdc 78 ∈ si_tb := si_at (i := 365) (by decide +kernel)
theorem si_cd79 : si_cdc 79 ∈ si_tb := si_at (i := 380) (by decide +kernel)
theorem si_cd80 : si_cdc 80 ∈ si_tb := si_at (i := 355) (by decide +kernel)
theorem si_cd81 : si_cdc 81 ∈ si_tb := si_at (i := 414) (by decide +kernel)
theorem si_cd82 : si_cdc 82 ∈ si_tb := si_at (i := 422) (by decide +kernel)
theorem si_cd83 : si_cdc 83 ∈ si_tb := si_at (i := 426) (by decide +kernel)
theorem si_cd84 : si_cdc 84 ∈ si_tb := si_at (i := 434) (by decide +kernel)
theorem si_cd85 : si_cdc 85 ∈ si_tb := si_at (i := 438) (by decide +kernel)
theorem si_cd86 : si_cdc 86 ∈ si_tb := si_at (i := 454) (by decide +kernel)
theorem si_cd87 : si_cdc 87 ∈ si_tb := si_at (i := 462) (by decide +kernel)
theorem si_cd88 : si_cdc 88 ∈ si_tb := si_at (i := 642) (by decide +kernel)
theorem si_cd89 : si_cdc 89 ∈ si_tb := si_at (i := 646) (by decide +kernel)
theorem si_cd90 : si_cdc 90 ∈ si_tb := si_at (i := 695) (by decide +kernel)
theorem si_cd91 : si_cdc 91 ∈ si_tb := si_at (i := 699) (by decide +kernel)
theorem si_cd92 : si_cdc 92 ∈ si_tb := si_at (i := 703) (by decide +kernel)
theorem si_cd93 : si_cdc 93 ∈ si_tb := si_at (i := 731) (by decide +kernel)
theorem si_cd94 : si_cdc 94 ∈ si_tb := si_at (i := 692) (by decide +kernel)
theorem si_cd95 : si_cdc 95 ∈ si_tb := si_at (i := 735) (by decide +kernel)
theorem si_cd96 : si_cdc 96 ∈ si_tb := si_at (i := 742) (by decide +kernel)
theorem si_cd97 : si_cdc 97 ∈ si_tb := si_at (i := 739) (by decide +kernel)
theorem si_cd98 : si_cdc 98 ∈ si_tb := si_at (i := 758) (by decide +kernel)
theorem si_cd99 : si_cdc 99 ∈ si_tb := si_at (i := 762) (by decide +kernel)
theorem si_cd100 : si_cdc 100 ∈ si_tb := si_at (i := 766) (by decide +kernel)
theorem si_cd101 : si_cdc 101 ∈ si_tb := si_at (i := 770) (by decide +kernel)
theorem si_cd102 : si_cdc 102 ∈ si_tb := si_at (i := 777) (by decide +kernel)
theorem si_cd103 : si_cdc 103 ∈ si_tb := si_at (i := 785) (by decide +kernel)
theorem si_cd104 : si_cdc 104 ∈ si_tb := si_at (i := 801) (by decide +kernel)
theorem si_cd105 : si_cdc 105 ∈ si_tb := si_at (i := 805) (by decide +kernel)
theorem si_cd106 : si_cdc 106 ∈ si_tb := si_at (i := 797) (by decide +kernel)
theorem si_cd107 : si_cdc 107 ∈ si_tb := si_at (i := 774) (by decide +kernel)
theorem si_cd108 : si_cdc 108 ∈ si_tb := si_at (i := 809) (by decide +kernel)
theorem si_cd109 : si_cdc 109 ∈ si_tb := si_at (i := 825) (by decide +kernel)
theorem si_cd110 : si_cdc 110 ∈ si_tb := si_at (i := 821) (by decide +kernel)
theorem si_cd111 : si_cdc 111 ∈ si_tb := si_at (i := 836) (by decide +kernel)
theorem si_cd112 : si_cdc 112 ∈ si_tb := si_at (i := 832) (by decide +kernel)
theorem si_cd113 : si_cdc 113 ∈ si_tb := si_at (i := 840) (by decide +kernel)
theorem si_cd114 : si_cdc 114 ∈ si_tb := si_at (i := 844) (by decide +kernel)
theorem si_cd115 : si_cdc 115 ∈ si_tb := si_at (i := 848) (by decide +kernel)
theorem si_cd116 : si_cdc 116 ∈ si_tb := si_at (i := 852) (by decide +kernel)
theorem si_cd117 : si_cdc 117 ∈ si_tb := si_at (i := 856) (by decide +kernel)
theorem si_cd118 : si_cdc 118 ∈ si_tb := si_at (i := 860) (by decide +kernel)
theorem si_cd119 : si_cdc 119 ∈ si_tb := si_at (i := 870) (by decide +kernel)
theorem si_cd120 : si_cdc 120 ∈ si_tb := si_at (i := 878) (by decide +kernel)
theorem si_cd121 : si_cdc 121 ∈ si_tb := si_at (i := 875) (by decide +kernel)
theorem si_cd122 : si_cdc 122 ∈ si_tb := si_at (i := 1040) (by decide +kernel)
theorem si_cd123 : si_cdc 123 ∈ si_tb := si_at (i := 1281) (by decide +kernel)
theorem si_cd126 : si_cdc 126 ∈ si_tb := si_at (i := 1052) (by decide +kernel)
theorem si_cd127 : si_cdc 127 ∈ si_tb := si_at (i := 1047) (by decide +kernel)
theorem si_cd128 : si_cdc 128 ∈ si_tb := si_at (i := 1063) (by decide +kernel)
theorem si_cd129 : si_cdc 129 ∈ si_tb := si_at (i := 1060) (by decide +kernel)
theorem si_cd130 : si_cdc 130 ∈ si_tb := si_at (i := 1067) (by decide +kernel)
theorem si_cd131 : si_cdc 131 ∈ si_tb := si_at (i := 1056) (by decide +kernel)
theorem si_cd132 : si_cdc 132 ∈ si_tb := si_at (i := 1044) (by decide +kernel)
theorem si_cd133 : si_cdc 133 ∈ si_tb := si_at (i := 1070) (by decide +kernel)
theorem si_cd134 : si_cdc 134 ∈ si_tb := si_at (i := 1079) (by decide +kernel)
theorem si_cd135 : si_cdc 135 ∈ si_tb := si_at (i := 1099) (by decide +kernel)
theorem si_cd136 : si_cdc 136 ∈ si_tb := si_at (i := 1095) (by decide +kernel)
theorem si_cd137 : si_cdc 137 ∈ si_tb := si_at (i := 1112) (by decide +kernel)
theorem si_cd138 : si_cdc 138 ∈ si_tb := si_at (i := 1108) (by decide +kernel)
theorem si_cd139 : si_cdc 139 ∈ si_tb := si_at (i := 1120) (by decide +kernel)
theorem si_cd140 : si_cdc 140 ∈ si_tb := si_at (i := 1136) (by decide +kernel)
theorem si_cd141 : si_cdc 141 ∈ si_tb := si_at (i := 1172) (by decide +kernel)
theorem si_cd142 : si_cdc 142 ∈ si_tb := si_at (i := 1176) (by decide +kernel)
theorem si_cd143 : si_cdc 143 ∈ si_tb := si_at (i := 1168) (by decide +kernel)
theorem si_cd144 : si_cdc 144 ∈ si_tb := si_at (i := 1164) (by decide +kernel)
theorem si_cd145 : si_cdc 145 ∈ si_tb := si_at (i := 1160) (by decide +kernel)
theorem si_cd146 : si_cdc 146 ∈ si_tb := si_at (i := 1156) (by decide +kernel)
theorem si_cd147 : si_cdc 147 ∈ si_tb := si_at (i := 1198) (by decide +kernel)
theorem si_cd148 : si_cdc 148 ∈ si_tb := si_at (i := 1194) (by decide +kernel)
theorem si_cd149 : si_cdc 149 ∈ si_tb := si_at (i := 1190) (by decide +kernel)
theorem si_cd150 : si_cdc 150 ∈ si_tb := si_at (i := 1186) (by decide +kernel)
theorem si_cd151 : si_cdc 151 ∈ si_tb := si_at (i := 1182) (by decide +kernel)
theorem si_cd152 : si_cdc 152 ∈ si_tb := si_at (i := 1152) (by decide +kernel)
theorem si_cd153 : si_cdc 153 ∈ si_tb := si_at (i := 1218) (by decide +kernel)
theorem si_cd154 : si_cdc 154 ∈ si_tb := si_at (i := 1214) (by decide +kernel)
theorem si_cd155 : si_cdc 155 ∈ si_tb := si_at (i := 1210) (by decide +kernel)
theorem si_cd156 : si_cdc 156 ∈ si_tb := si_at (i := 1206) (by decide +kernel)
theorem si_cd157 : si_cdc 157 ∈ si_tb := si_at (i := 1202) (by decide +kernel)
theorem si_cd158 : si_cdc 158 ∈ si_tb := si_at (i := 1148) (by decide +kernel)
theorem si_cd159 : si_cdc 159 ∈ si_tb := si_at (i := 1238) (by decide +kernel)
theorem si_cd160 : si_cdc 160 ∈ si_tb := si_at (i := 1234) (by decide +kernel)
theorem si_cd161 : si_cdc 161 ∈ si_tb := si_at (i := 1230) (by decide +kernel)
theorem si_cd162 : si_cdc 162 ∈ si_tb := si_at (i := 1226) (by decide +kernel)
theorem si_cd163 : si_cdc 163 ∈ si_tb := si_at (i := 1222) (by decide +kernel)
theorem si_cd164 : si_cdc 164 ∈ si_tb := si_at (i := 1144) (by decide +kernel)
theorem si_cd165 : si_cdc 165 ∈ si_tb := si_at (i := 1258) (by decide +kernel)
theorem si_cd166 : si_cdc 166 ∈ si_tb := si_at (i := 1254) (by decide +kernel)
theorem si_cd167 : si_cdc 167 ∈ si_tb := si_at (i := 1250) (by decide +kernel)
theorem si_cd168 : si_cdc 168 ∈ si_tb := si_at (i := 1246) (by decide +kernel)
theorem si_cd169 : si_cdc 169 ∈ si_tb := si_at (i := 1242) (by decide +kernel)
theorem si_cd170 : si_cdc 170 ∈ si_tb := si_at (i := 1140) (by decide +kernel)
theorem si_cd171 : si_cdc 171 ∈ si_tb := si_at (i := 1278) (by decide +kernel)
theorem si_cd172 : si_cdc 172 ∈ si_tb := si_at (i := 1274) (by decide +kernel)
theorem si_cd173 : si_cdc 173 ∈ si_tb := si_at (i := 1270) (by decide +kernel)
theorem si_cd174 : si_cdc 174 ∈ si_tb := si_at (i := 1266) (by decide +kernel)
theorem si_cd175 : si_cdc 175 ∈ si_tb := si_at (i := 1262) (by decide +kernel)
theorem si_cd176 : si_cdc 176 ∈ si_tb := si_at (i := 1132) (by decide +kernel)
theorem si_cd177 : si_cdc 177 ∈ si_tb := si_at (i := 1128) (by decide +kernel)
theorem si_cd178 : si_cdc 178 ∈ si_tb := si_at (i := 1124) (by decide +kernel)
theorem si_cd179 : si_cdc 179 ∈ si_tb := si_at (i := 1116) (by decide +kernel)
theorem si_cd180 : si_cdc 180 ∈ si_tb := si_at (i := 1091) (by decide +kernel)
theorem si_cd181 : si_cdc 181 ∈ si_tb := si_at (i := 1087) (by decide +kernel)
theorem si_cd182 : si_cdc 182 ∈ si_tb := si_at (i := 1083) (by decide +kernel)
theorem si_cd183 : si_cdc 183 ∈ si_tb := si_at (i := 1285) (by decide +kernel)
theorem si_cd184 : si_cdc 184 ∈ si_tb := si_at (i := 1074) (by decide +kernel)
theorem si_cd185 : si_cdc 185 ∈ si_tb := si_at (i := 1289) (by decide +kernel)
theorem si_cd186 : si_cdc 186 ∈ si_tb := si_at (i := 1036) (by decide +kernel)
theorem si_cd187 : si_cdc 187 ∈ si_tb := si_at (i := 1298) (by decide +kernel)
theorem si_cd188 : si_cdc 188 ∈ si_tb := si_at (i := 1293) (by decide +kernel)
theorem si_cd189 : si_cdc 189 ∈ si_tb := si_at (i := 1303) (by decide +kernel)
theorem si_cd190 : si_cdc 190 ∈ si_tb := si_at (i := 1308) (by decide +kernel)
theorem si_cd191 : si_cdc 191 ∈ si_tb := si_at (i := 1312) (by decide +kernel)
theorem si_cd192 : si_cdc 192 ∈ si_tb := si_at (i := 1353) (by decide +kernel)
theorem si_cd193 : si_cdc 193 ∈ si_tb := si_at (i := 1316) (by decide +kernel)
theorem si_cd194 : si_cdc 194 ∈ si_tb := si_at (i := 1320) (by decide +kernel)
theorem si_cd195 : si_cdc 195 ∈ si_tb := si_at (i := 1329) (by decide +kernel)
theorem si_cd196 : si_cdc 196 ∈ si_tb := si_at (i := 1324) (by decide +kernel)
theorem si_cd197 : si_cdc 197 ∈ si_tb := si_at (i := 1341) (by decide +kernel)
theorem si_cd198 : si_cdc 198 ∈ si_tb := si_at (i := 1345) (by decide +kernel)
theorem si_cd199 : si_cdc 199 ∈ si_tb := si_at (i := 1349) (by decide +kernel)
theorem si_cd200 : si_cdc 200 ∈ si_tb := si_at (i := 1337) (by decide +kernel)
theorem si_cd201 : si_cdc 201 ∈ si_tb := si_at (i := 1357) (by decide +kernel)
theorem si_cd202 : si_cdc 202 ∈ si_tb := si_at (i := 1333) (by decide +kernel)
theorem si_cd203 : si_cdc 203 ∈ si_tb := si_at (i := 1371) (by decide +kernel)
theorem si_cd204 : si_cdc 204 ∈ si_tb := si_at (i := 1383) (by decide +kernel)
theorem si_cd205 : si_cdc 205 ∈ si_tb := si_at (i := 1379) (by decide +kernel)
theorem si_cd206 : si_cdc 206 ∈ si_tb := si_at (i := 1375) (by decide +kernel)
theorem si_cd207 : si_cdc 207 ∈ si_tb := si_at (i := 1361) (by decide +kernel)
theorem si_cd208 : si_cdc 208 ∈ si_tb := si_at (i := 1387) (by decide +kernel)
theorem si_cd209 : si_cdc 209 ∈ si_tb := si_at (i := 1395) (by decide +kernel)
theorem si_cd210 : si_cdc 210 ∈ si_tb := si_at (i := 1399) (by decide +kernel)
theorem si_cd211 : si_cdc 211 ∈ si_tb := si_at (i := 1391) (by decide +kernel)
theorem si_cd212 : si_cdc 212 ∈ si_tb := si_at (i := 1407) (by decide +kernel)
theorem si_cd213 : si_cdc 213 ∈ si_tb := si_at (i := 1411) (by decide +kernel)
theorem si_cd214 : si_cdc 214 ∈ si_tb := si_at (i := 1403) (by decide +kernel)
theorem si_cd215 : si_cdc 215 ∈ si_tb := si_at (i := 1415) (by decide +kernel)
theorem si_cd216 : si_cdc 216 ∈ si_tb := si_at (i := 1419) (by decide +kernel)
theorem si_cd217 : si_cdc 217 ∈ si_tb := si_at (i := 1423) (by decide +kernel)
theorem si_cd218 : si_cdc 218 ∈ si_tb := si_at (i := 1435) (by decide +kernel)
theorem si_cd219 : si_cdc 219 ∈ si_tb := si_at (i := 1430) (by decide +kernel)
theorem si_cd220 : si_cdc 220 ∈ si_tb := si_at (i := 1427) (by decide +kernel)
theorem si_cd221 : si_cdc 221 ∈ si_tb := si_at (i := 1443) (by decide +kernel)
theorem si_cd222 : si_cdc 222 ∈ si_tb := si_at (i := 1439) (by decide +kernel)
theorem si_cd223 : si_cdc 223 ∈ si_tb := si_at (i := 1453) (by decide +kernel)
theorem si_cd224 : si_cdc 224 ∈ si_tb := si_at (i := 1449) (by decide +kernel)
theorem si_cd225 : si_cdc 225 ∈ si_tb := si_at (i := 1458) (by decide +kernel)
theorem si_cd226 : si_cdc 226 ∈ si_tb := si_at (i := 1464) (by decide +kernel)
theorem si_cd227 : si_cdc 227 ∈ si_tb := si_at (i := 1468) (by decide +kernel)
theorem si_cd228 : si_cdc 228 ∈ si_tb := si_at (i := 1472) (by decide +kernel)
theorem si_cd229 : si_cdc 229 ∈ si_tb := si_at (i := 1477) (by decide +kernel)
theorem si_cd230 : si_cdc 230 ∈ si_tb := si_at (i := 1481) (by decide +kernel)
theorem si_cd231 : si_cdc 231 ∈ si_tb := si_at (i := 1485) (by decide +kernel)
theorem si_cd232 : si_cdc 232 ∈ si_tb := si_at (i := 1493) (by decide +kernel)
theorem si_cd233 : si_cdc 233 ∈ si_tb := si_at (i := 1490) (by decide +kernel)
theorem si_cdr0 : ∀ j ∈ si_JA_0, si_cdc j ∈ si_tb := List.forall_mem_cons.mpr ⟨si_cd1, List.forall_mem_cons.mpr ⟨si_cd2, List.forall_mem_cons.mpr ⟨si_cd3, List.forall_mem_cons.mpr ⟨si_cd4, List.forall_mem_cons.mpr ⟨si_cd5, List.forall_mem_cons.mpr ⟨si_cd7, List.forall_mem_cons.mpr ⟨si_cd8, List.forall_mem_cons.mpr ⟨si_cd9, List.forall_mem_cons.mpr ⟨si_cd10, List.forall_mem_cons.mpr ⟨si_cd11, List.forall_mem_cons.mpr ⟨si_cd13, List.forall_mem_cons.mpr ⟨si_cd14, List.forall_mem_cons.mpr ⟨si_cd15, List.forall_mem_cons.mpr ⟨si_cd16, List.forall_mem_cons.mpr ⟨si_cd17, List.forall_mem_cons.mpr ⟨si_cd18, List.forall_mem_cons.mpr ⟨si_cd19, List.forall_mem_cons.mpr ⟨si_cd20, List.forall_mem_cons.mpr ⟨si_cd21, List.forall_mem_cons.mpr ⟨si_cd22, (fun _ h => absurd h List.not_mem_nil)⟩⟩⟩⟩⟩⟩⟩⟩⟩⟩⟩⟩⟩⟩⟩⟩⟩⟩⟩⟩
theorem si_cdr1 : ∀ j ∈ si_JA_1, si_cdc j ∈ si_tb := List.forall_mem_cons.mpr ⟨si_cd23, List.forall_mem_cons.mpr ⟨si_cd24, List.forall_mem_cons.mpr ⟨si_cd25, List.forall_mem_cons.mpr ⟨si_cd26, List.forall_mem_cons.mpr ⟨si_cd27, List.forall_mem_cons.mpr ⟨si_cd28, List.forall_mem_cons.mpr ⟨si_cd29, List.forall_mem_cons.mpr ⟨si_cd30, List.forall_mem_cons.mpr ⟨si_cd31, List.forall_mem_cons.mpr ⟨si_cd32, List.forall_mem_cons.mpr ⟨si_cd33, List.forall_mem_cons.mpr ⟨si_cd34, List.forall_mem_cons.mpr ⟨si_cd35, List.forall_mem_cons.mpr ⟨si_cd36, List.forall_mem_cons.mpr ⟨si_cd37, List.forall_mem_cons.mpr ⟨si_cd39, List.forall_mem_cons.mpr ⟨si_cd40, List.forall_mem_cons.mpr ⟨si_cd41, List.forall_mem_cons.mpr ⟨si_cd42, List.forall_mem_cons.mpr ⟨si_cd43, (fun _ h => absurd h List.not_mem_nil)⟩⟩⟩⟩⟩⟩⟩⟩⟩⟩⟩⟩⟩⟩⟩⟩⟩⟩⟩⟩
theorem si_cdr2 : ∀ j ∈ si_JA_2, si_cdc j ∈ si_tb := List.forall_mem_cons.mpr ⟨si_cd44, List.forall_mem_cons.mpr ⟨si_cd45, List.forall_mem_cons.mpr ⟨si_cd46, List.forall_mem_cons.mpr ⟨si_cd47, List.forall_mem_cons.mpr ⟨si_cd48, List.forall_mem_cons.mpr ⟨si_cd49, List.forall_mem_cons.mpr ⟨si_cd50, List.forall_mem_cons.mpr ⟨si_cd51, List.forall_mem_cons.mpr ⟨si_cd53, List.forall_mem_cons.mpr ⟨si_cd54, List.forall_mem_cons.mpr ⟨si_cd55, List.forall_mem_cons.mpr ⟨si_cd56, List.forall_mem_cons.mpr ⟨si_cd57, List.forall_mem_cons.mpr ⟨si_cd58, List.forall_mem_cons.mpr ⟨si_cd60, List.forall_mem_cons.mpr ⟨si_cd61, List.forall_mem_cons.mpr ⟨si_cd62, List.forall_mem_cons.mpr ⟨si_cd63, List.forall_mem_cons.mpr ⟨si_cd64, List.forall_mem_cons.mpr ⟨si_cd65, (fun _ h => absurd h List.not_mem_nil)⟩⟩⟩⟩⟩⟩⟩⟩⟩⟩⟩⟩⟩⟩⟩⟩⟩⟩⟩⟩
theorem si_cdr3 : ∀ j ∈ si_JA_3, si_cdc j ∈ si_tb := List.forall_mem_cons.mpr ⟨si_cd66, List.forall_mem_cons.mpr ⟨si_cd67, List.forall_mem_cons.mpr ⟨si_cd68, List.forall_mem_cons.mpr ⟨si_cd69, List.forall_mem_cons.mpr ⟨si_cd70, List.forall_mem_cons.mpr ⟨si_cd71, List.forall_mem_cons.mpr ⟨si_cd72, List.forall_mem_cons.mpr ⟨si_cd73, List.forall_mem_cons.mpr ⟨si_cd75, List.forall_mem_cons.mpr ⟨si_cd76, List.forall_mem_cons.mpr ⟨si_cd77, List.forall_mem_cons.mpr ⟨si_cd78, List.forall_mem_cons.mpr ⟨si_cd79, List.forall_mem_cons.mpr ⟨si_cd80, List.forall_mem_cons.mpr ⟨si_cd81, List.forall_mem_cons.mpr ⟨si_cd82, List.forall_mem_cons.mpr ⟨si_cd83, List.forall_mem_cons.mpr ⟨si_cd84, List.forall_mem_cons.mpr ⟨si_cd85, List.forall_mem_cons.mpr ⟨si_cd86, (fun _ h => absurd h List.not_mem_nil)⟩⟩⟩⟩⟩⟩⟩⟩⟩⟩⟩⟩⟩⟩⟩⟩⟩⟩⟩⟩
theorem si_cdr4 : ∀ j ∈ si_JA_4, si_cdc j ∈ si_tb := List.forall_mem_cons.mpr ⟨si_cd87, List.forall_mem_cons.mpr ⟨si_cd88, List.forall_mem_cons.mpr ⟨si_cd89, List.forall_mem_cons.mpr ⟨si_cd90, List.forall_mem_cons.mpr ⟨si_cd91, List.forall_mem_cons.mpr ⟨si_cd92, List.forall_mem_cons.mpr ⟨si_cd93, List.forall_mem_cons.mpr ⟨si_cd94, List.forall_mem_cons.mpr ⟨si_cd95, List.forall_mem_cons.mpr ⟨si_cd96, List.forall_mem_cons.mpr ⟨si_cd97, List.forall_mem_cons.mpr ⟨si_cd98, List.forall_mem_cons.mpr ⟨si_cd99, List.forall_mem_cons.mpr ⟨si_cd100, List.forall_mem_cons.mpr ⟨si_cd101, List.forall_mem_cons.mpr ⟨si_cd102, List.forall_mem_cons.mpr ⟨si_cd103, List.forall_mem_cons.mpr ⟨si_cd104, List.forall_mem_cons.mpr ⟨si_cd105, List.forall_mem_cons.mpr ⟨si_cd106, (fun _ h => absurd h List.not_mem_nil)⟩⟩⟩⟩⟩⟩⟩⟩⟩⟩⟩⟩⟩⟩⟩⟩⟩⟩⟩⟩
theorem si_cdr5 : ∀ j ∈ si_JA_5, si_cdc j ∈ si_tb := List.forall_mem_cons.mpr ⟨si_cd107, List.forall_mem_cons.mpr ⟨si_cd108, List.forall_mem_cons.mpr ⟨si_cd109, List.forall_mem_cons.mpr ⟨si_cd110, List.forall_mem_cons.mpr ⟨si_cd111, List.forall_mem_cons.mpr ⟨si_cd112, List.forall_mem_cons.mpr ⟨si_cd113, List.forall_mem_cons.mpr ⟨si_cd114, List.forall_mem_cons.mpr ⟨si_cd115, List.forall_mem_cons.mpr ⟨si_cd116, List.forall_mem_cons.mpr ⟨si_cd117, List.forall_mem_cons.mpr ⟨si_cd118, List.forall_mem_cons.mpr ⟨si_cd119, List.forall_mem_cons.mpr ⟨si_cd120, List.forall_mem_cons.mpr ⟨si_cd121, List.forall_mem_cons.mpr ⟨si_cd122, List.forall_mem_cons.mpr ⟨si_cd123, List.forall_mem_cons.mpr ⟨si_cd126, List.forall_mem_cons.mpr ⟨si_cd127, List.forall_mem_cons.mpr ⟨si_cd128, (fun _ h => absurd h List.not_mem_nil)⟩⟩⟩⟩⟩⟩⟩⟩⟩⟩⟩⟩⟩⟩⟩⟩⟩⟩⟩⟩
theorem si_cdr6 : ∀ j ∈ si_JA_6, si_cdc j ∈ si_tb := List.forall_mem_cons.mpr ⟨si_cd129, List.forall_mem_cons.mpr ⟨si_cd130, List.forall_mem_cons.mpr ⟨si_cd131, List.forall_mem_cons.mpr ⟨si_cd132, List.forall_mem_cons.mpr ⟨si_cd133, List.forall_mem_cons.mpr ⟨si_cd134, List.forall_mem_cons.mpr ⟨si_cd135, List.forall_mem_cons.mpr ⟨si_cd136, List.forall_mem_cons.mpr ⟨si_cd137, List.forall_mem_cons.mpr ⟨si_cd138, List.forall_mem_cons.mpr ⟨si_cd139, List.forall_mem_cons.mpr ⟨si_cd140, List.forall_mem_cons.mpr ⟨si_cd141, List.forall_mem_cons.mpr ⟨si_cd142, List.forall_mem_cons.mpr ⟨si_cd143, List.forall_mem_cons.mpr ⟨si_cd144, List.forall_mem_cons.mpr ⟨si_cd145, List.forall_mem_cons.mpr ⟨si_cd146, List.forall_mem_cons.mpr ⟨si_cd147, List.forall_mem_cons.mpr ⟨si_cd148, (fun _ h => absurd h List.not_mem_nil)⟩⟩⟩⟩⟩⟩⟩⟩⟩⟩⟩⟩⟩⟩⟩⟩⟩⟩⟩⟩
theorem si_cdr7 : ∀ j ∈ si_JA_7, si_cdc j ∈ si_tb := List.forall_mem_cons.mpr ⟨si_cd149, List.forall_mem_cons.mpr ⟨si_cd150, List.forall_mem_cons.mpr ⟨si_cd151, List.forall_mem_cons.mpr ⟨si_cd152, List.forall_mem_cons.mpr ⟨si_cd153, List.forall_mem_cons.mpr ⟨si_cd154, List.forall_mem_cons.mpr ⟨si_cd155, List.forall_mem_cons.mpr ⟨si_cd156, List.forall_mem_cons.mpr ⟨si_cd157, List.forall_mem_cons.mpr ⟨si_cd158, List.forall_mem_cons.mpr ⟨si_cd159, List.forall_mem_cons.mpr ⟨si_cd160, List.forall_mem_cons.mpr ⟨si_cd161, List.forall_mem_cons.mpr ⟨si_cd162, List.forall_mem_cons.mpr ⟨si_cd163, List.forall_mem_cons.mpr ⟨si_cd164, List.forall_mem_cons.mpr ⟨si_cd165, List.forall_mem_cons.mpr ⟨si_cd166, List.forall_mem_cons.mpr ⟨si_cd167, List.forall_mem_cons.mpr ⟨si_cd168, (fun _ h => absurd h List.not_mem_nil)⟩⟩⟩⟩⟩⟩⟩⟩⟩⟩⟩⟩⟩⟩⟩⟩⟩⟩⟩⟩
theorem si_cdr8 : ∀ j ∈ si_JA_8, si_cdc j ∈ si_tb := List.forall_mem_cons.mpr ⟨si_cd169, List.forall_mem_cons.mpr ⟨si_cd170, List.forall_mem_cons.mpr ⟨si_cd171, List.forall_mem_cons.mpr ⟨si_cd172, List.forall_mem_cons.mpr ⟨si_cd173, List.forall_mem_cons.mpr ⟨si_cd174, List.forall_mem_cons.mpr ⟨si_cd175, List.forall_mem_cons.mpr ⟨si_cd176, List.forall_mem_cons.mpr ⟨si_cd177, List.forall_mem_cons.mpr ⟨si_cd178, List.forall_mem_cons.mpr ⟨si_cd179, List.forall_mem_cons.mpr ⟨si_cd180, List.forall_mem_cons.mpr ⟨si_cd181, List.forall_mem_cons.mpr ⟨si_cd182, List.forall_mem_cons.mpr ⟨si_cd183, List.forall_mem_cons.mpr ⟨si_cd184, List.forall_mem_cons.mpr ⟨si_cd185, List.forall_mem_cons.mpr ⟨si_cd186, List.forall_mem_cons.mpr ⟨si_cd187, List.forall_mem_cons.mpr ⟨si_cd188, (fun _ h => absurd h List.not_mem_nil)⟩⟩⟩⟩⟩⟩⟩⟩⟩⟩⟩⟩⟩⟩⟩⟩⟩⟩⟩⟩
theorem si_cdr9 : ∀ j ∈ si_JA_9, si_cdc j ∈ si_tb := List.forall_mem_cons.mpr ⟨si_cd189, List.forall_mem_cons.mpr ⟨si_cd190, List.forall_mem_cons.mpr ⟨si_cd191, List.forall_mem_cons.mpr ⟨si_cd192, List.forall_mem_cons.mpr ⟨si_cd193, List.forall_mem_cons.mpr ⟨si_cd194, List.forall_mem_cons.mpr ⟨si_cd195, List.forall_mem_cons.mpr ⟨si_cd196, List.forall_mem_cons.mpr ⟨si_cd197, List.forall_mem_cons.mpr ⟨si_cd198, List.forall_mem_cons.mpr ⟨si_cd199, List.forall_mem_cons.mpr ⟨si_cd200, List.forall_mem_cons.mpr ⟨si_cd201, List.forall_mem_cons.mpr ⟨si_cd202, List.forall_mem_cons.mpr ⟨si_cd203, List.forall_mem_cons.mpr ⟨si_cd204, List.forall_mem_cons.mpr ⟨si_cd205, List.forall_mem_cons.mpr ⟨si_cd206, List.forall_mem_cons.mpr ⟨si_cd207, List.forall_mem_cons.mpr ⟨si_cd208, (fun _ h => absurd h List.not_mem_nil)⟩⟩⟩⟩⟩⟩⟩⟩⟩⟩⟩⟩⟩⟩⟩⟩⟩⟩⟩⟩
theorem si_cdr10 : ∀ j ∈ si_JA_10, si_cdc j ∈ si_tb := List.forall_mem_cons.mpr ⟨si_cd209, List.forall_mem_cons.mpr ⟨si_cd210, List.forall_mem_cons.mpr ⟨si_cd211, List.forall_mem_cons.mpr ⟨si_cd212, List.forall_mem_cons.mpr ⟨si_cd213, List.forall_mem_cons.mpr ⟨si_cd214, List.forall_mem_cons.mpr ⟨si_cd215, List.forall_mem_cons.mpr ⟨si_cd216, List.forall_mem_cons.mpr ⟨si_cd217, List.forall_mem_cons.mpr ⟨si_cd218, List.forall_mem_cons.mpr ⟨si_cd219, List.forall_mem_cons.mpr ⟨si_cd220, List.forall_mem_cons.mpr ⟨si_cd221, List.forall_mem_cons.mpr ⟨si_cd222, List.forall_mem_cons.mpr ⟨si_cd223, List.forall_mem_cons.mpr ⟨si_cd224, List.forall_mem_cons.mpr ⟨si_cd225, List.forall_mem_cons.mpr ⟨si_cd226, List.forall_mem_cons.mpr ⟨si_cd227, List.forall_mem_cons.mpr ⟨si_cd228, (fun _ h => absurd h List.not_mem_nil)⟩⟩⟩⟩⟩⟩⟩⟩⟩⟩⟩⟩⟩⟩⟩⟩⟩⟩⟩⟩
theorem si_cdr11 : ∀ j ∈ si_JA_11, si_cdc j ∈ si_tb := List.forall_mem_cons.mpr ⟨si_cd229, List.forall_mem_cons.mpr ⟨si_cd230, List.forall_mem_cons.mpr ⟨si_cd231, List.forall_mem_cons.mpr ⟨si_cd232, List.forall_mem_cons.mpr ⟨si_cd233, (fun _ h => absurd h List.not_mem_nil)⟩⟩⟩⟩⟩
theorem si_i1_ok {q : Nat} (h : q ∈ si_JA) : si_cdc q ∈ si_tb := by
  unfold si_JA at h
  rcases List.mem_append.mp h with h | h
  · exact si_cdr0 q h
  rcases List.mem_append.mp h with h | h
  · exact si_cdr1 q h
  rcases List.mem_append.mp h with h | h
  · exact si_cdr2 q h
  rcases List.mem_append.mp h with h | h
  · exact si_cdr3 q h
  rcases List.mem_append.mp h with h | h
  · exact si_cdr4 q h
  rcases List.mem_append.mp h with h | h
  · exact si_cdr5 q h
  rcases List.mem_append.mp h with h | h
  · exact si_cdr6 q h
  rcases List.mem_append.mp h with h | h
  · exact si_cdr7 q h
  rcases List.mem_append.mp h with h | h
  · exact si_cdr8 q h
  rcases List.mem_append.mp h with h | h
  · exact si_cdr9 q h
  rcases List.mem_append.mp h with h | h
  · exact si_cdr10 q h
  exact si_cdr11 q h
def si_i2 : List Nat := [744, 748, 752, 144, 148, 464, 635, 631, 391, 705, 370, 374, 416, 428, 382, 686, 721, 725, 717, 449, 445, 440, 682, 678, 386, 404, 408, 658, 653, 665, 670, 674, 648, 712, 586, 582, 590, 578, 606, 623, 598, 602, 594, 615, 619, 611, 573, 779, 811, 791, 787, 815, 863, 456, 627, 473, 489, 484, 546, 480, 559, 563, 570, 468, 364, 379, 353, 412, 420, 424, 432, 436, 452, 460, 640, 644, 698, 702, 730, 690, 733, 737, 756, 760, 764, 768, 784, 800, 804, 796, 772, 807, 824, 819, 830, 838, 842, 846, 850, 854, 858, 868, 873, 1051, 1059, 1066, 1055, 1043, 1078, 1098, 1094, 1111, 1107, 1119, 1135, 1171, 1175, 1167, 1163, 1159, 1155, 1197, 1193, 1189, 1185, 1181, 1151, 1217, 1213, 1209, 1205, 1201, 1147, 1237, 1233, 1229, 1225, 1221, 1143, 1257, 1253, 1249, 1245, 1241, 1139, 1277, 1273, 1269, 1265, 1261, 1131, 1127, 1123, 1115, 1090, 1086, 1082, 1284, 1072, 1288, 1034, 1297, 1291, 1301, 1306, 1310, 1352, 1314, 1318, 1328, 1322, 1340, 1344, 1348, 1336, 1356, 1331, 1370, 1382, 1378, 1374, 1359, 1385, 1394, 1398, 1389, 1406, 1410, 1401, 1413, 1417, 1421, 1434, 1425, 1441, 1437, 1452, 1447, 1456, 1462, 1466, 1470, 1475, 1479, 1483, 1488]
theorem si_i2_ok_a : (si_JV.zip si_i2).all (fun q => decide (lw_tbl[q.2]? = some (si_imc q.1)) && goodWord (si_imc q.1)) = true := by decide +kernel
theorem si_i2_ok {q : Nat} (h : q ∈ si_JV) : si_imc q ∈ si_tb := by
  obtain ⟨i, hi⟩ := si_zip (li := si_i2) (by decide +kernel) si_i2_ok_a h
  exact si_at hi
def si_i3 : List Nat := [745, 749, 753, 145, 149, 465, 636, 632, 392, 706, 371, 375, 417, 429, 383, 687, 722, 726, 718, 3, 2, 441, 29, 28, 387, 405, 409, 659, 24, 25, 26, 27, 649, 713, 14, 13, 15, 12, 19, 23, 17, 18, 16, 21, 22, 20, 574, 780, 812, 792, 788, 816, 864, 457, 628, 4, 7, 6, 8, 5, 9, 10, 11, 469, 0, 1, 354, 413, 421, 425, 433, 437, 453, 461, 641, 645, 30, 31, 32, 691, 734, 738, 757, 761, 765, 769, 33, 35, 36, 34, 773, 808, 37, 820, 831, 839, 843, 847, 851, 855, 859, 869, 874, 40, 42, 43, 41, 39, 44, 49, 48, 51, 50, 53, 57, 66, 67, 65, 64, 63, 62, 72, 71, 70, 69, 68, 61, 77, 76, 75, 74, 73, 60, 82, 81, 80, 79, 78, 59, 87, 86, 85, 84, 83, 58, 92, 91, 90, 89, 88, 56, 55, 54, 52, 47, 46, 45, 93, 1073, 94, 1035, 95, 1292, 1302, 1307, 1311, 101, 1315, 1319, 96, 1323, 98, 99, 100, 97, 102, 1332, 103, 106, 105, 104, 1360, 1386, 107, 108, 1390, 109, 110, 1402, 1414, 1418, 1422, 111, 1426, 1442, 1438, 112, 1448, 1457, 1463, 1467, 1471, 1476, 1480, 1484, 1489]
theorem si_i3_ok_a : (si_JV.zip si_i3).all (fun q => decide (lw_tbl[q.2]? = some (si_slc q.1)) && goodWord (si_slc q.1)) = true := by decide +kernel
theorem si_i3_ok {q : Nat} (h : q ∈ si_JV) : si_slc q ∈ si_tb := by
  obtain ⟨i, hi⟩ := si_zip (li := si_i3) (by decide +kernel) si_i3_ok_a h
  exact si_at hi
def si_i4 : List Nat := [395, 476, 555, 566, 360, 357, 367, 694, 741, 776, 835, 877, 1039, 1280, 1046, 1062, 1069, 1429, 1492]
theorem si_i4_ok_a : (si_JS.zip si_i4).all (fun q => decide (lw_tbl[q.2]? = some (si_stc q.1)) && goodWord (si_stc q.1)) = true := by decide +kernel
theorem si_i4_ok {q : Nat} (h : q ∈ si_JS) : si_stc q ∈ si_tb := by
  obtain ⟨i, hi⟩ := si_zip (li := si_i4) (by decide +kernel) si_i4_ok_a h
  exact si_at hi
def si_i5 : List Nat := [121, 121, 121, 115, 115, 115, 115, 115, 115, 115, 118, 118, 118, 118, 118, 118, 118, 118, 118, 118, 118, 118, 118, 118, 118, 118, 118, 118, 118, 118, 118, 118, 118, 118, 118, 117, 117, 117, 117, 117, 117, 117, 117, 117, 117, 117, 117, 117, 120, 120, 120, 120, 120, 120, 116, 116, 116, 116, 116, 116, 116, 116, 116, 116, 116, 116, 116, 116, 114, 114, 114, 114, 114, 114, 114, 114, 114, 114, 114, 114, 114, 114, 114, 114, 114, 114, 114, 114, 114, 114, 114, 114, 114, 114, 114, 114, 114, 114, 114, 114, 114, 114, 114, 114, 114, 114, 114, 114, 114, 114, 114, 114, 114, 114, 114, 122, 122, 122, 122, 122, 122, 122, 122, 122, 122, 122, 122, 122, 122, 122, 122, 122, 122, 122, 122, 122, 122, 122, 122, 122, 122, 122, 122, 122, 122, 122, 122, 122, 122, 122, 122, 122, 122, 122, 122, 122, 122, 122, 122, 122, 122, 122, 122, 122, 122, 122, 122, 122, 122, 122, 122, 122, 122, 122, 122, 122, 122, 122, 122, 122, 122, 122, 122, 122, 122, 122, 122, 122, 122, 122, 122, 122, 122, 122, 122, 122, 122, 122, 122, 122, 122, 122, 122, 122, 122, 122, 122, 122, 122, 122, 122, 122, 122, 122, 122, 122, 122, 122, 122, 122, 122, 122, 122, 122, 122]
theorem si_i5_ok_a : (si_JA.zip si_i5).all (fun q => decide (lw_tbl[q.2]? = some (si_inc q.1)) && goodWord (si_inc q.1)) = true := by decide +kernel
theorem si_i5_ok {q : Nat} (h : q ∈ si_JA) : si_inc q ∈ si_tb := by
  obtain ⟨i, hi⟩ := si_zip (li := si_i5) (by decide +kernel) si_i5_ok_a h
  exact si_at hi
noncomputable def si_mck (j : Nat) : Bool := decide ((si_mY j).cls = si_R (si_mO j)) && (decide ((si_mY j).cls ≠ "java/lang/invoke/MethodHandle") && (decide ((si_mY j).cls ≠ "java/lang/invoke/VarHandle") && (decide ((parseMethodDescriptor (si_mY j).desc).map (fun d => d.parameters.length) = some (si_mN j)) && (plainName (si_mY j).cls && (Nat.ble (si_mL j) 100 && (Nat.blt (si_mO j) 8 && (decide (si_mR j = (bif Nat.beq (si_mT j) 0 then none else bif Nat.beq (si_mT j) 1 then some .int else bif Nat.beq (si_mT j) 2 then some .boolean else some .long)) && Nat.ble (si_mT j) 3)))))))
theorem si_mck_a : si_JA.all si_mck = true := by decide +kernel
theorem si_jv_a : si_ML.all (fun q => !Nat.beq q.2.2.1 0 || si_JV.any (fun j => Nat.beq j q.2.2.2)) = true := by decide +kernel
theorem si_js_a : si_ML.all (fun q => !Nat.beq q.2.2.1 1 || si_JS.any (fun j => Nat.beq j q.2.2.2)) = true := by decide +kernel
theorem si_va_a : si_JV.all (fun i => si_JA.any (fun j => Nat.beq j i)) = true := by decide +kernel
theorem si_sa_a : si_JS.all (fun i => si_JA.any (fun j => Nat.beq j i)) = true := by decide +kernel
theorem si_x_mxs : (Cond.static Lib.Math.max.name) ∈ si_tb := si_at (i := 401) (by decide +kernel)
theorem si_x_mns : (Cond.static Lib.Math.min.name) ∈ si_tb := si_at (i := 398) (by decide +kernel)
theorem si_x_acs : (Cond.static arraycopyName) ∈ si_tb := si_at (i := 709) (by decide +kernel)
theorem si_x_acn : (Cond.native arraycopyName) ∈ si_tb := si_at (i := 710) (by decide +kernel)
theorem si_x_mxc : (Cond.code Lib.Math.max.name Lib.Math.max.code 2 (some .int)) ∈ si_tb := si_at (i := 402) (by decide +kernel)
theorem si_x_mnc : (Cond.code Lib.Math.min.name Lib.Math.min.code 2 (some .int)) ∈ si_tb := si_at (i := 399) (by decide +kernel)
theorem si_x_mi : (Cond.initialized "java/lang/Math") ∈ si_tb := si_at (i := 123) (by decide +kernel)
theorem si_x_si : (Cond.initialized "java/lang/System") ∈ si_tb := si_at (i := 128) (by decide +kernel)
theorem si_x_ul : (Cond.fieldLink RX6 276 RX6 "UNDER" "[I") ∈ si_tb := si_at (i := 879) (by decide +kernel)
theorem si_in0 : ∀ w ∈ u_ws RX0 TX0 2, w ∈ si_tb := by
  have h : (u_ws RX0 TX0 2).all (fun w => decide (w ∈ lw_tbl) && goodWord w) = true := by decide +kernel
  intro w hw
  have h1 := List.all_eq_true.mp h w hw
  simp only [Bool.and_eq_true, decide_eq_true_eq] at h1
  exact List.mem_filter.mpr h1
theorem si_in1 : ∀ w ∈ u_ws RX1 TX1 6, w ∈ si_tb := by
  have h : (u_ws RX1 TX1 6).all (fun w => decide (w ∈ lw_tbl) && goodWord w) = true := by decide +kernel
  intro w hw
  have h1 := List.all_eq_true.mp h w hw
  simp only [Bool.and_eq_true, decide_eq_true_eq] at h1
  exact List.mem_filter.mpr h1
theorem si_in2 : ∀ w ∈ u_ws RX2 TX2 15, w ∈ si_tb := by
  have h : (u_ws RX2 TX2 15).all (fun w => decide (w ∈ lw_tbl) && goodWord w) = true := by decide +kernel
  intro w hw
  have h1 := List.all_eq_true.mp h w hw
  simp only [Bool.and_eq_true, decide_eq_true_eq] at h1
  exact List.mem_filter.mpr h1
theorem si_in3 : ∀ w ∈ u_ws RX3 TX3 4, w ∈ si_tb := by
  have h : (u_ws RX3 TX3 4).all (fun w => decide (w ∈ lw_tbl) && goodWord w) = true := by decide +kernel
  intro w hw
  have h1 := List.all_eq_true.mp h w hw
  simp only [Bool.and_eq_true, decide_eq_true_eq] at h1
  exact List.mem_filter.mpr h1
theorem si_in4 : ∀ w ∈ u_ws RX4 TX4 3, w ∈ si_tb := by
  have h : (u_ws RX4 TX4 3).all (fun w => decide (w ∈ lw_tbl) && goodWord w) = true := by decide +kernel
  intro w hw
  have h1 := List.all_eq_true.mp h w hw
  simp only [Bool.and_eq_true, decide_eq_true_eq] at h1
  exact List.mem_filter.mpr h1
theorem si_in5 : ∀ w ∈ u_ws RX5 TX5 7, w ∈ si_tb := by
  have h : (u_ws RX5 TX5 7).all (fun w => decide (w ∈ lw_tbl) && goodWord w) = true := by decide +kernel
  intro w hw
  have h1 := List.all_eq_true.mp h w hw
  simp only [Bool.and_eq_true, decide_eq_true_eq] at h1
  exact List.mem_filter.mpr h1
theorem si_in6 : ∀ w ∈ u_ws RX6 TX6 9, w ∈ si_tb := by
  have h : (u_ws RX6 TX6 9).all (fun w => decide (w ∈ lw_tbl) && goodWord w) = true := by decide +kernel
  intro w hw
  have h1 := List.all_eq_true.mp h w hw
  simp only [Bool.and_eq_true, decide_eq_true_eq] at h1
  exact List.mem_filter.mpr h1
theorem si_in7 : ∀ w ∈ u_ws RX7 TX7 47, w ∈ si_tb := by
  have h : (u_ws RX7 TX7 47).all (fun w => decide (w ∈ lw_tbl) && goodWord w) = true := by decide +kernel
  intro w hw
  have h1 := List.all_eq_true.mp h w hw
  simp only [Bool.and_eq_true, decide_eq_true_eq] at h1
  exact List.mem_filter.mpr h1
