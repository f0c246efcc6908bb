def piE : List Nat := [72, 80, 89, 99, 110, 122, 135, 149, 164, 180, 63, 197, 215, 234, 254, 275, 297, 320, 344, 57, 369]
def piO : List Nat := [73, 81, 90, 100, 111, 123, 136, 150, 165, 181, 64, 198, 216, 235, 255, 276, 298, 321, 345, 58, 370]
def piA : List Nat := [75, 83, 92, 102, 113, 125, 138, 152, 167, 183, 66, 200, 218, 237, 257, 278, 300, 323, 347, 60, 372]
def piH : List Nat := [76, 84, 93, 103, 114, 126, 139, 153, 168, 184, 67, 201, 219, 238, 258, 279, 301, 324, 348, 61, 373]
def piD : List Nat := [77, 85, 94, 104, 115, 127, 140, 154, 169, 185, 68, 202, 220, 239, 259, 280, 302, 325, 349, 62, 374]
def piW : List Nat := [74, 82, 91, 101, 112, 124, 137, 151, 166, 182, 65, 199, 217, 236, 256, 277, 299, 322, 346, 59, 371]
def piL : List Nat := [7, 8, 9, 10, 11, 12, 13, 14, 15, 16, 17, 18, 19, 20, 21, 22, 23, 24, 25, 26, 27]
def piS : List Nat := [36, 37, 38, 39, 40, 41, 42, 43, 44, 45, 46, 47, 48, 49, 50, 51, 52, 53, 54, 55, 56]
def psE : List Nat := [437, 442, 447, 454, 461, 468, 496, 524, 548, 569, 611, 626, 642, 654, 666, 676, 684, 694, 704, 713, 723, 733, 743, 753, 761, 769, 777, 785, 793, 801, 809, 816, 823, 831, 839, 848, 856, 864, 872, 880, 888, 896, 903, 910]
def psC : List Nat := [438, 443, 448, 455, 462, 469, 497, 525, 549, 570, 612, 627, 643, 655, 667, 677, 685, 695, 705, 714, 724, 734, 744, 754, 762, 770, 778, 786, 794, 802, 810, 817, 824, 832, 840, 849, 857, 865, 873, 881, 889, 897, 904, 911]
def psR : List Nat := [439, 444, 449, 456, 463, 470, 498, 526, 550, 571, 613, 628, 644, 656, 668, 678, 686, 696, 706, 715, 725, 735, 745, 755, 763, 771, 779, 787, 795, 803, 811, 818, 825, 833, 841, 850, 858, 866, 874, 882, 890, 898, 905, 912]
def psN : List Nat := [440, 445, 450, 457, 464, 471, 499, 527, 551, 572, 614, 629, 645, 657, 669, 679, 687, 697, 707, 716, 726, 736, 746, 756, 764, 772, 780, 788, 796, 804, 812, 819, 826, 834, 842, 851, 859, 867, 875, 883, 891, 899, 906, 913]
def psB : List (List Nat) := [[441], [446], [451, 452, 453], [458, 459, 460], [465, 466, 467], [472, 473, 474, 475, 476, 477, 478, 479, 480, 481, 482, 483, 484, 485, 486, 487, 488, 489, 490, 491, 492, 493, 494, 495], [500, 501, 502, 503, 504, 505, 506, 507, 508, 509, 510, 511, 512, 513, 514, 515, 516, 517, 518, 519, 520, 521, 522, 523], [528, 529, 530, 531, 532, 533, 534, 535, 536, 537, 538, 539, 540, 541, 542, 543, 544, 545, 546, 547], [552, 553, 554, 555, 556, 557, 558, 559, 560, 561, 562, 563, 564, 565, 566, 567, 568], [573, 574, 575, 576, 577, 578, 579, 580, 581, 582, 583, 584, 585, 586, 587, 588, 589, 590, 591, 592, 593, 594, 595, 596, 597, 598, 599, 600, 601, 602, 603, 604, 605, 606, 607, 608, 609, 610], [615, 616, 617, 618, 619, 620, 621, 622, 623, 624, 625], [630, 631, 632, 633, 634, 635, 636, 637, 638, 639, 640, 641], [646, 647, 648, 649, 650, 651, 652, 653], [658, 659, 660, 661, 662, 663, 664, 665], [670, 671, 672, 673, 674, 675], [680, 681, 682, 683], [688, 689, 690, 691, 692, 693], [698, 699, 700, 701, 702, 703], [708, 709, 710, 711, 712], [717, 718, 719, 720, 721, 722], [727, 728, 729, 730, 731, 732], [737, 738, 739, 740, 741, 742], [747, 748, 749, 750, 751, 752], [757, 758, 759, 760], [765, 766, 767, 768], [773, 774, 775, 776], [781, 782, 783, 784], [789, 790, 791, 792], [797, 798, 799, 800], [805, 806, 807, 808], [813, 814, 815], [820, 821, 822], [827, 828, 829, 830], [835, 836, 837, 838], [843, 844, 845, 846], [852, 853, 854, 855], [860, 861, 862, 863], [868, 869, 870, 871], [876, 877, 878, 879], [884, 885, 886, 887], [892, 893, 894, 895], [900, 901, 902], [907, 908, 909], [914, 915, 916, 917]]
def piX : List (List Nat) := [[0, 88, 97, 107, 118, 130, 143, 157, 172, 188, 9999, 205, 223, 242, 262, 283, 305, 328, 352, 9999, 377], [9999, 0, 98, 108, 119, 131, 144, 158, 173, 189, 9999, 206, 224, 243, 263, 284, 306, 329, 353, 9999, 378], [9999, 9999, 0, 109, 120, 132, 145, 159, 174, 190, 9999, 207, 225, 244, 264, 285, 307, 330, 354, 9999, 379], [9999, 9999, 9999, 0, 121, 133, 146, 160, 175, 191, 9999, 208, 226, 245, 265, 286, 308, 331, 355, 9999, 380], [9999, 9999, 9999, 9999, 0, 134, 147, 161, 176, 192, 9999, 209, 227, 246, 266, 287, 309, 332, 356, 9999, 381], [9999, 9999, 9999, 9999, 9999, 0, 148, 162, 177, 193, 9999, 210, 228, 247, 267, 288, 310, 333, 357, 9999, 382], [9999, 9999, 9999, 9999, 9999, 9999, 0, 163, 178, 194, 9999, 211, 229, 248, 268, 289, 311, 334, 358, 9999, 383], [9999, 9999, 9999, 9999, 9999, 9999, 9999, 0, 179, 195, 9999, 212, 230, 249, 269, 290, 312, 335, 359, 9999, 384], [9999, 9999, 9999, 9999, 9999, 9999, 9999, 9999, 0, 196, 9999, 213, 231, 250, 270, 291, 313, 336, 360, 9999, 385], [9999, 9999, 9999, 9999, 9999, 9999, 9999, 9999, 9999, 0, 9999, 214, 232, 251, 271, 292, 314, 337, 361, 9999, 386], [79, 87, 96, 106, 117, 129, 142, 156, 171, 187, 0, 204, 222, 241, 261, 282, 304, 327, 351, 9999, 376], [9999, 9999, 9999, 9999, 9999, 9999, 9999, 9999, 9999, 9999, 9999, 0, 233, 252, 272, 293, 315, 338, 362, 9999, 387], [9999, 9999, 9999, 9999, 9999, 9999, 9999, 9999, 9999, 9999, 9999, 9999, 0, 253, 273, 294, 316, 339, 363, 9999, 388], [9999, 9999, 9999, 9999, 9999, 9999, 9999, 9999, 9999, 9999, 9999, 9999, 9999, 0, 274, 295, 317, 340, 364, 9999, 389], [9999, 9999, 9999, 9999, 9999, 9999, 9999, 9999, 9999, 9999, 9999, 9999, 9999, 9999, 0, 296, 318, 341, 365, 9999, 390], [9999, 9999, 9999, 9999, 9999, 9999, 9999, 9999, 9999, 9999, 9999, 9999, 9999, 9999, 9999, 0, 319, 342, 366, 9999, 391], [9999, 9999, 9999, 9999, 9999, 9999, 9999, 9999, 9999, 9999, 9999, 9999, 9999, 9999, 9999, 9999, 0, 343, 367, 9999, 392], [9999, 9999, 9999, 9999, 9999, 9999, 9999, 9999, 9999, 9999, 9999, 9999, 9999, 9999, 9999, 9999, 9999, 0, 368, 9999, 393], [9999, 9999, 9999, 9999, 9999, 9999, 9999, 9999, 9999, 9999, 9999, 9999, 9999, 9999, 9999, 9999, 9999, 9999, 0, 9999, 394], [78, 86, 95, 105, 116, 128, 141, 155, 170, 186, 69, 203, 221, 240, 260, 281, 303, 326, 350, 0, 375], [9999, 9999, 9999, 9999, 9999, 9999, 9999, 9999, 9999, 9999, 9999, 9999, 9999, 9999, 9999, 9999, 9999, 9999, 9999, 9999, 0]]
theorem mz_l1 {w : Cond} (h : w ∈ tables_1_1) : w ∈ lw_tbl := List.mem_append_right _ (List.mem_append_left _ h)
theorem mz_l2 {w : Cond} (h : w ∈ tables_1_2) : w ∈ lw_tbl := List.mem_append_right _ (List.mem_append_right _ (List.mem_append_left _ h))
theorem mz_l3 {w : Cond} (h : w ∈ tables_1_3) : w ∈ lw_tbl := List.mem_append_right _ (List.mem_append_right _ (List.mem_append_right _ (List.mem_append_left _ h)))
theorem mz_l4 {w : Cond} (h : w ∈ tables_1_4) : w ∈ lw_tbl := List.mem_append_right _ (List.mem_append_right _ (List.mem_append_right _ (List.mem_append_right _ (List.mem_append_left _ h))))
theorem mz_l5 {w : Cond} (h : w ∈ tables_1_5) : w ∈ lw_tbl := List.mem_append_right _ (List.mem_append_right _ (List.mem_append_right _ (List.mem_append_right _ (List.mem_append_right _ (List.mem_append_left _ h)))))
theorem mz_l6 {w : Cond} (h : w ∈ tables_1_6) : w ∈ lw_tbl := List.mem_append_right _ (List.mem_append_right _ (List.mem_append_right _ (List.mem_append_right _ (List.mem_append_right _ (List.mem_append_right _ (List.mem_append_left _ h))))))
theorem mz_l7 {w : Cond} (h : w ∈ tables_1_7) : w ∈ lw_tbl := List.mem_append_right _ (List.mem_append_right _ (List.mem_append_right _ (List.mem_append_right _ (List.mem_append_right _ (List.mem_append_right _ (List.mem_append_right _ h))))))
def mzNl : List Cond := flatC narrow_1
def tCmd (c : Nat) : Term := .static "ParcelLine$Command" (mzCmdN.getD c "") "LParcelLine$Command;"
def tStr (k : Nat) : Term := .string (mzStrO.getD k ("", 0, "")).1 (mzStrO.getD k ("", 0, "")).2.1
def tVal (k : Nat) : Term := .field (tStr k) "java/lang/String" "value" "[B"
def tAll : Term := .static "ParcelLine$Command" "ALL" "[LParcelLine$Command;"
def tSw : Term := .static "ParcelLine$1" "$SwitchMap$ParcelLine$Command" "[I"
def mzTm (i : Nat) : Term := if i < 21 then tCmd i else if i = 21 then tAll else if i = 22 then tSw else if i < 200 then tStr (i - 100) else tVal (i - 200)
def refOf : Option Value → Nat
  | some (.ref a) => a
  | _ => 0
def mzRa (args : Array Value) (s : State) (i : Nat) : Nat := refOf ((mzTm i).eval args s none [] s)
def inN (p : Nat) (w : Cond) : Bool := decide (mzNl[p]? = some w)
theorem inN_mem {p : Nat} {w : Cond} (h : inN p w = true) : w ∈ mzNl := List.mem_of_getElem? (of_decide_eq_true h)
theorem nc_all : (List.range 21).all (fun c => inN (piE.getD c 0) (.exactly (tCmd c) "ParcelLine$Command") && inN (piO.getD c 0) (.eq (.field (tCmd c) "java/lang/Enum" "ordinal" "I") (.int (Int32.ofNat c))) && inN (piW.getD c 0) (.eq (.field (tCmd c) "ParcelLine$Command" "word" "Ljava/lang/String;") (tStr (mzCmdW.getD c 0))) && inN (piA.getD c 0) (.eq (.field (tCmd c) "ParcelLine$Command" "argument" "I") (.int (mzCmdA.getD c 0))) && inN (piH.getD c 0) (.eq (.field (tCmd c) "ParcelLine$Command" "who" "I") (.int (mzCmdWho.getD c 0))) && inN (piD.getD c 0) (.eq (.field (tCmd c) "ParcelLine$Command" "duringTransfer" "Z") (.int (mzCmdD.getD c 0))) && inN (piL.getD c 0) (.eq (.elem tAll (.int (Int32.ofNat c))) (tCmd c)) && inN (piS.getD c 0) (.eq (.elem tSw (.int (Int32.ofNat c))) (.int (mzSw.getD c 0)))) = true := by decide +kernel
theorem nx_all : (List.range 21).all (fun i => (List.range 21).all (fun j => decide (i = j) || inN ((piX.getD i []).getD j 0) (.not (.eq (tCmd i) (tCmd j))) || inN ((piX.getD j []).getD i 0) (.not (.eq (tCmd j) (tCmd i))))) = true := by decide +kernel
theorem ns_all : (List.range 44).all (fun k => inN (psE.getD k 0) (.exactly (tStr k) "java/lang/String") && inN (psC.getD k 0) (.eq (.field (tStr k) "java/lang/String" "coder" "B") (.int 0)) && inN (psR.getD k 0) (.arrayOf (tVal k) .byte) && inN (psN.getD k 0) (.eq (.length (tVal k)) (.int (Int32.ofNat (mzStrB.getD k []).length))) && (List.range (mzStrB.getD k []).length).all (fun j => inN ((psB.getD k []).getD j 0) (.eq (.elem (tVal k) (.int (Int32.ofNat j))) (.int ((mzStrB.getD k []).getD j 0)))) && decide ((mzStrB.getD k []).length < 2 ^ 31)) = true := by decide +kernel
def wlS : List Nat := [58, 59, 60, 61, 62, 63, 64, 65, 66, 67, 197, 68, 69, 70, 71, 72, 73, 74, 75, 195, 76]
theorem wl_all : (List.range 21).all (fun c => decide (tables_1_3[wlS.getD c 0]? = some (.laysStatic "ParcelLine$Command" (mzCmdN.getD c "") "LParcelLine$Command;")) || decide (tables_1_7[wlS.getD c 0]? = some (.laysStatic "ParcelLine$Command" (mzCmdN.getD c "") "LParcelLine$Command;"))) = true := by decide +kernel
def wrS : List Nat := [238, 3, 141, 142, 147, 111, 146, 164, 186, 213, 214, 226, 236, 4, 5, 6, 15, 17, 18, 22, 28, 46, 47, 77, 78, 79, 80, 81, 82, 83, 84, 85, 86, 87, 88, 89, 90, 91, 92, 93, 94, 95, 96, 97]
theorem wr_all : (List.range 44).all (fun k => decide (tables_1_2[wrS.getD k 0]? = some (.stringRef (mzStrO.getD k ("", 0, "")).1 (mzStrO.getD k ("", 0, "")).2.1 (mzStrO.getD k ("", 0, "")).2.2)) || decide (tables_1_3[wrS.getD k 0]? = some (.stringRef (mzStrO.getD k ("", 0, "")).1 (mzStrO.getD k ("", 0, "")).2.1 (mzStrO.getD k ("", 0, "")).2.2)) || decide (tables_1_4[wrS.getD k 0]? = some (.stringRef (mzStrO.getD k ("", 0, "")).1 (mzStrO.getD k ("", 0, "")).2.1 (mzStrO.getD k ("", 0, "")).2.2)) || decide (tables_1_5[wrS.getD k 0]? = some (.stringRef (mzStrO.getD k ("", 0, "")).1 (mzStrO.getD k ("", 0, "")).2.1 (mzStrO.getD k ("", 0, "")).2.2)) || decide (tables_1_7[wrS.getD k 0]? = some (.stringRef (mzStrO.getD k ("", 0, "")).1 (mzStrO.getD k ("", 0, "")).2.1 (mzStrO.getD k ("", 0, "")).2.2))) = true := by decide +kernel
theorem wl_at {c : Nat} (h : c < 21) : Cond.laysStatic "ParcelLine$Command" (mzCmdN.getD c "") "LParcelLine$Command;" ∈ lw_tbl := by
  have h1 := List.all_eq_true.mp wl_all c (List.mem_range.mpr h)
  simp only [Bool.or_eq_true, decide_eq_true_eq] at h1
  rcases h1 with h1 | h1
  · exact mz_l3 (List.mem_of_getElem? h1)
  · exact mz_l7 (List.mem_of_getElem? h1)
theorem wr_at {c : Nat} (h : c < 44) : Cond.stringRef (mzStrO.getD c ("", 0, "")).1 (mzStrO.getD c ("", 0, "")).2.1 (mzStrO.getD c ("", 0, "")).2.2 ∈ lw_tbl := by
  have h1 := List.all_eq_true.mp wr_all c (List.mem_range.mpr h)
  simp only [Bool.or_eq_true, decide_eq_true_eq] at h1
  rcases h1 with (((h1 | h1) | h1) | h1) | h1
  · exact mz_l2 (List.mem_of_getElem? h1)
  · exact mz_l3 (List.mem_of_getElem? h1)
  · exact mz_l4 (List.mem_of_getElem? h1)
  · exact mz_l5 (List.mem_of_getElem? h1)
  · exact mz_l7 (List.mem_of_getElem? h1)
theorem nest_all : mzNest.all (fun w => decide (w ∈ tables_1_1) || decide (w ∈ tables_1_2) || decide (w ∈ tables_1_3) || decide (w ∈ tables_1_4) || decide (w ∈ tables_1_5) || decide (w ∈ tables_1_6) || decide (w ∈ tables_1_7)) = true := by decide +kernel
theorem nest_at {w : Cond} (h : w ∈ mzNest) : w ∈ lw_tbl := by
  have h1 := List.all_eq_true.mp nest_all w h
  simp only [Bool.or_eq_true, decide_eq_true_eq] at h1
  rcases h1 with (((((h1 | h1) | h1) | h1) | h1) | h1) | h1
  · exact mz_l1 h1
  · exact mz_l2 h1
  · exact mz_l3 h1
  · exact mz_l4 h1
  · exact mz_l5 h1
  · exact mz_l6 h1
  · exact mz_l7 h1
theorem nest_tab {w : Cond} (h : w ∈ mzNest) : w.onTables = true := by
  have h1 := List.all_eq_true.mp mzNest_is w h
  cases w <;> first | rfl | (simp [isNest] at h1; done)
section MzInit
variable {args : Array Value} {s : State}
theorem i_ref {t : Term} {i : Nat} (ht : mzTm i = t) {a : Nat} (h : t.eval args s none [] s = some (.ref a)) : mzRa args s i = a := by
  unfold mzRa
  rw [ht, h]
  rfl
theorem tm_cmd {c : Nat} (h : c < 21) : mzTm c = tCmd c := by unfold mzTm; rw [if_pos h]
theorem tm_str {k : Nat} (h : k < 44) : mzTm (100 + k) = tStr k := by
  unfold mzTm
  rw [if_neg (by omega), if_neg (by omega), if_neg (by omega), if_pos (by omega), show 100 + k - 100 = k by omega]
theorem tm_val {k : Nat} (h : k < 44) : mzTm (200 + k) = tVal k := by
  unfold mzTm
  rw [if_neg (by omega), if_neg (by omega), if_neg (by omega), if_neg (by omega), show 200 + k - 200 = k by omega]
theorem i_eval (hN : ∀ w ∈ mzNl, w.before args s = true) {c : Nat} (h : c < 21) : (tCmd c).eval args s none [] s = some (.ref (mzRa args s c)) := by
  have h1 := List.all_eq_true.mp nc_all c (List.mem_range.mpr h)
  simp only [Bool.and_eq_true] at h1
  obtain ⟨a, c0, cell, k, q1, q2, q3, q4, q5, q6, -⟩ := Cond.exactly_spec (hN _ (inN_mem h1.1.1.1.1.1.1.1))
  rw [q1, i_ref (tm_cmd h) q1]
theorem i_evals (hN : ∀ w ∈ mzNl, w.before args s = true) {k : Nat} (h : k < 44) : (tStr k).eval args s none [] s = some (.ref (mzRa args s (100 + k))) := by
  have h1 := List.all_eq_true.mp ns_all k (List.mem_range.mpr h)
  simp only [Bool.and_eq_true] at h1
  obtain ⟨a, c0, cell, k, q1, q2, q3, q4, q5, q6, -⟩ := Cond.exactly_spec (hN _ (inN_mem h1.1.1.1.1.1))
  rw [q1, i_ref (tm_str h) q1]
theorem wCmdW {c : Nat} (h : c < 21) : mzCmdW.getD c 0 < 44 := by
  have h1 : (List.range 21).all (fun c => decide (mzCmdW.getD c 0 < 44)) = true := by decide +kernel
  exact of_decide_eq_true (List.all_eq_true.mp h1 c (List.mem_range.mpr h))
theorem i_A : ∀ a : Nat, a < s.heap.size → ¬ s.heap.size ≤ a := fun a h => Nat.not_le.mpr h
theorem i_cmd (hts : ∀ w ∈ lw_tbl, w.before args s = true) (hN : ∀ w ∈ mzNl, w.before args s = true) {c : Nat} (h : c < 21) : mzCmd c (mzRa args s) (fun q => s.heap.size ≤ q) s s.heap := by
  have h1 := List.all_eq_true.mp nc_all c (List.mem_range.mpr h)
  simp only [Bool.and_eq_true] at h1
  obtain ⟨⟨⟨⟨⟨⟨⟨g1, g2⟩, g3⟩, g4⟩, g5⟩, g6⟩, g7⟩, g8⟩ := h1
  have ev := i_eval hN h
  obtain ⟨y, w1, w2⟩ := Cond.eq_one (show (Cond.eq _ _).holds args s none s [] = true from hN _ (inN_mem g3))
  rw [i_evals hN (wCmdW h)] at w2
  cases w2
  exact ⟨va_Oof (hN _ (inN_mem g1)) ev i_A, vk_OFof ev (va_eqt (hN _ (inN_mem g2))) i_A, vk_OFof ev w1 i_A, vk_OFof ev (va_eqt (hN _ (inN_mem g4))) i_A, vk_OFof ev (va_eqt (hN _ (inN_mem g5))) i_A, vk_OFof ev (va_eqt (hN _ (inN_mem g6))) i_A, va_Zof (hts _ (wl_at h)) (hts _ (mz_l1 (List.mem_of_getElem? (i := 13) (by decide +kernel)))) ev i_A⟩
theorem i_str (hts : ∀ w ∈ lw_tbl, w.before args s = true) (hN : ∀ w ∈ mzNl, w.before args s = true) {k : Nat} (h : k < 44) : mzStr k (mzRa args s) (fun q => s.heap.size ≤ q) s s.heap := by
  have h1 := List.all_eq_true.mp ns_all k (List.mem_range.mpr h)
  simp only [Bool.and_eq_true, decide_eq_true_eq] at h1
  obtain ⟨⟨⟨⟨⟨g1, g2⟩, g3⟩, g4⟩, g5⟩, g6⟩ := h1
  have ev := i_evals hN h
  obtain ⟨t, ht, hT⟩ := va_Tof (f := fun j => .int ((mzStrB.getD k []).getD j 0)) (A := fun q => s.heap.size ≤ q) g6 (hN _ (inN_mem g3)) (va_eqt (hN _ (inN_mem g4))) (fun j hj => va_eqt (hN _ (inN_mem (List.all_eq_true.mp g5 j (List.mem_range.mpr hj))))) i_A
  have et : mzRa args s (200 + k) = t := i_ref (tm_val h) ht
  refine ⟨va_Oof (hN _ (inN_mem g1)) ev i_A, vk_OFof ev (va_eqt (hN _ (inN_mem g2))) i_A, vk_OFof ev (by rw [et]; exact ht) i_A, by rw [et]; exact hT, ?_⟩
  exact ⟨hts _ (wr_at h), ev⟩
theorem i_ro (hts : ∀ w ∈ lw_tbl, w.before args s = true) (hN : ∀ w ∈ mzNl, w.before args s = true) (D : va_G) : mz_ro mzRo (D, mzRa args s) (fun q => s.heap.size ≤ q) s s.heap := by
  intro f hf
  refine ⟨mz_stays f hf, ?_⟩
  show f (mzRa args s) (fun q => s.heap.size ≤ q) s s.heap
  unfold mzRo at hf
  rcases List.mem_append.mp hf with h | h
  · obtain ⟨w, hw, rfl⟩ := List.mem_map.mp h
    exact va_Nw.of (nest_tab hw) (hts w (nest_at hw))
  · rcases List.mem_append.mp h with h | h
    · simp only [List.mem_cons, List.not_mem_nil, or_false] at h
      rcases h with rfl | rfl | rfl | rfl | rfl | rfl | rfl | rfl | rfl | rfl | rfl | rfl | rfl | rfl | rfl | rfl | rfl
      · exact va_AO.of (hts _ (mz_l1 (List.mem_of_getElem? (i := 40) (by decide +kernel))))
      · exact va_AO.of (hts _ (mz_l1 (List.mem_of_getElem? (i := 117) (by decide +kernel))))
      · exact va_AO.of (hts _ (mz_l2 (List.mem_of_getElem? (i := 58) (by decide +kernel))))
      · obtain ⟨t, ht, hT⟩ := va_Tof (tm := tAll) (ty := .object "ParcelLine$Command") (N := 21) (f := fun j => .ref (mzRa args s j)) (A := fun q => s.heap.size ≤ q) (by decide) (hN _ (inN_mem (p := 4) (by decide +kernel))) (va_eqt (hN _ (inN_mem (p := 5) (by decide +kernel)))) (fun j hj => by
          have h1 := List.all_eq_true.mp nc_all j (List.mem_range.mpr hj)
          simp only [Bool.and_eq_true] at h1
          obtain ⟨y, w1, w2⟩ := Cond.eq_one (show (Cond.eq _ _).holds args s none s [] = true from hN _ (inN_mem h1.1.2))
          rw [i_eval hN hj] at w2
          cases w2
          exact w1) i_A
        have et : mzRa args s 21 = t := i_ref (i := 21) rfl ht
        exact ⟨va_Zof (hts _ (mz_l2 (List.mem_of_getElem? (i := 173) (by decide +kernel)))) (hts _ (mz_l1 (List.mem_of_getElem? (i := 13) (by decide +kernel)))) (by rw [et]; exact ht) i_A, by rw [et]; exact hT⟩
      · obtain ⟨t, ht, hT⟩ := va_Tof (tm := tSw) (ty := .int) (N := 21) (f := fun j => .int (mzSw.getD j 0)) (A := fun q => s.heap.size ≤ q) (by decide) (hN _ (inN_mem (p := 34) (by decide +kernel))) (va_eqt (hN _ (inN_mem (p := 35) (by decide +kernel)))) (fun j hj => by
          have h1 := List.all_eq_true.mp nc_all j (List.mem_range.mpr hj)
          simp only [Bool.and_eq_true] at h1
          exact va_eqt (hN _ (inN_mem h1.2))) i_A
        have et : mzRa args s 22 = t := i_ref (i := 22) rfl ht
        exact ⟨va_Zof (hts _ (mz_l3 (List.mem_of_getElem? (i := 38) (by decide +kernel)))) (hts _ (mz_l1 (List.mem_of_getElem? (i := 18) (by decide +kernel)))) (by rw [et]; exact ht) i_A, by rw [et]; exact hT⟩
      · exact va_Zof (hts _ (mz_l2 (List.mem_of_getElem? (i := 187) (by decide +kernel)))) (hts _ (mz_l1 (List.mem_of_getElem? (i := 14) (by decide +kernel)))) (va_eqt (hN _ (inN_mem (p := 28) (by decide +kernel)))) i_A
      · intro i j hi hj he
        by_cases hij : i = j
        · exact hij
        · have h1 := List.all_eq_true.mp (List.all_eq_true.mp nx_all i (List.mem_range.mpr hi)) j (List.mem_range.mpr hj)
          simp only [Bool.or_eq_true, decide_eq_true_eq] at h1
          rcases h1 with (h1 | h1) | h1
          · exact h1
          · exact absurd he (va_neR (hN _ (inN_mem h1)) (i_eval hN hi) (i_eval hN hj))
          · exact absurd he.symm (va_neR (hN _ (inN_mem h1)) (i_eval hN hj) (i_eval hN hi))
      · obtain ⟨v, hv, hr⟩ := Cond.isRef_spec (show (Cond.isRef (.static "java/lang/Throwable" "UNASSIGNED_STACK" "[Ljava/lang/StackTraceElement;")).holds args s none s [] = true from hN _ (inN_mem (p := 70) (by decide +kernel)))
        exact ⟨v, hr, va_Zof (hts _ (mz_l4 (List.mem_of_getElem? (i := 97) (by decide +kernel)))) (hts _ (mz_l1 (List.mem_of_getElem? (i := 19) (by decide +kernel)))) hv i_A⟩
      · obtain ⟨v, hv, hr⟩ := Cond.isRef_spec (show (Cond.isRef (.static "java/lang/Throwable" "SUPPRESSED_SENTINEL" "Ljava/util/List;")).holds args s none s [] = true from hN _ (inN_mem (p := 71) (by decide +kernel)))
        exact ⟨v, hr, va_Zof (hts _ (mz_l4 (List.mem_of_getElem? (i := 99) (by decide +kernel)))) (hts _ (mz_l1 (List.mem_of_getElem? (i := 19) (by decide +kernel)))) hv i_A⟩
      · obtain ⟨v, hv, hr⟩ := Cond.isRef_spec (show (Cond.isRef (.static "jdk/internal/util/Preconditions" "SIOOBE_FORMATTER" "Ljava/util/function/BiFunction;")).holds args s none s [] = true from hN _ (inN_mem (p := 29) (by decide +kernel)))
        exact ⟨v, hr, va_Zof (hts _ (mz_l2 (List.mem_of_getElem? (i := 203) (by decide +kernel)))) (hts _ (mz_l1 (List.mem_of_getElem? (i := 16) (by decide +kernel)))) hv i_A⟩
      · obtain ⟨c, k, i, f, a, cell, hc, hi, hst, ha, hcell, hs, hcls, hlt, hty⟩ := Cond.laysStatic_spec (show (Cond.laysStatic "java/lang/Throwable" "UNASSIGNED_STACK" "[Ljava/lang/StackTraceElement;").holds args s none s [] = true from (hts _ (mz_l4 (List.mem_of_getElem? (i := 97) (by decide +kernel)))))
        exact ⟨c, k, i, f, a, cell, hc, hi, hst, ha, hcell, hs, hcls, hlt, hty, i_A a (Array.getElem?_eq_some_iff.mp hcell).1⟩
      · obtain ⟨c, k, i, f, a, cell, hc, hi, hst, ha, hcell, hs, hcls, hlt, hty⟩ := Cond.laysStatic_spec (show (Cond.laysStatic "java/lang/Throwable" "SUPPRESSED_SENTINEL" "Ljava/util/List;").holds args s none s [] = true from (hts _ (mz_l4 (List.mem_of_getElem? (i := 99) (by decide +kernel)))))
        exact ⟨c, k, i, f, a, cell, hc, hi, hst, ha, hcell, hs, hcls, hlt, hty, i_A a (Array.getElem?_eq_some_iff.mp hcell).1⟩
      · exact va_Nw.of rfl (hts _ (mz_l4 (List.mem_of_getElem? (i := 72) (by decide +kernel))))
      · exact va_Nw.of rfl (hts _ (mz_l4 (List.mem_of_getElem? (i := 139) (by decide +kernel))))
      · exact va_Nw.of rfl (hts _ (mz_l4 (List.mem_of_getElem? (i := 179) (by decide +kernel))))
      · exact va_Nc.of (hN _ (inN_mem (p := 407) (by decide +kernel)))
      · exact va_Nc.of (hN _ (inN_mem (p := 408) (by decide +kernel)))
    · rcases List.mem_append.mp h with h | h
      · obtain ⟨c, hc, rfl⟩ := List.mem_map.mp h
        exact i_cmd hts hN (List.mem_range.mp hc)
      · obtain ⟨k, hk, rfl⟩ := List.mem_map.mp h
        exact i_str hts hN (List.mem_range.mp hk)
end MzInit
