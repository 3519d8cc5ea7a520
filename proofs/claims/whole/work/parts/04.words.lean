/-! Facts of the tables, 2: the places of the words of each method. -/
/-- of each method: 0 virtual, 1 constructor, 2 static, 3 the law, 4 static with handlers; the places of code, of static or instanceMethod, of selects, of initialized; parameters -/
def mfl : List (Nat × Nat × Nat × Nat × Nat × Nat) := [(1, 191, 190, 0, 55, 0), (0, 296, 294, 295, 55, 3), (0, 693, 691, 692, 55, 0), (1, 130, 129, 0, 53, 1), (0, 391, 390, 5, 53, 3), (0, 442, 441, 7, 53, 1), (0, 340, 339, 0, 53, 1), (0, 359, 358, 1, 53, 0), (0, 449, 448, 8, 53, 1), (0, 378, 377, 3, 53, 0), (0, 370, 369, 2, 53, 0), (0, 386, 385, 4, 53, 1), (0, 433, 432, 6, 53, 1), (0, 288, 286, 287, 53, 1), (1, 85, 84, 0, 51, 0), (0, 400, 398, 399, 51, 2), (0, 336, 334, 335, 51, 1), (0, 457, 455, 456, 51, 3), (0, 424, 422, 423, 51, 2), (0, 420, 418, 419, 51, 3), (0, 437, 435, 436, 51, 0), (0, 406, 404, 405, 51, 1), (0, 735, 733, 734, 51, 1), (0, 395, 393, 394, 51, 2), (0, 683, 681, 682, 51, 2), (0, 300, 298, 299, 51, 1), (1, 79, 78, 0, 50, 0), (2, 445, 444, 0, 50, 1), (0, 345, 343, 344, 50, 1), (0, 363, 361, 362, 50, 1), (0, 324, 322, 323, 50, 1), (0, 332, 330, 331, 50, 2), (0, 349, 347, 348, 50, 2), (0, 763, 761, 762, 50, 1), (0, 759, 757, 758, 50, 1), (0, 750, 748, 749, 50, 3), (0, 355, 353, 354, 50, 1), (0, 328, 326, 327, 50, 0), (1, 184, 183, 0, 54, 0), (0, 453, 451, 452, 54, 6), (0, 416, 414, 415, 54, 4), (0, 292, 290, 291, 54, 0), (0, 651, 650, 14, 54, 0), (0, 731, 730, 19, 54, 2), (0, 638, 636, 637, 54, 1), (0, 723, 721, 722, 54, 1), (0, 461, 459, 460, 54, 1), (0, 642, 641, 12, 54, 1), (0, 428, 426, 427, 54, 2), (0, 821, 819, 820, 54, 0), (0, 411, 409, 410, 54, 2), (0, 647, 646, 13, 54, 1), (0, 727, 726, 18, 54, 2), (0, 671, 669, 670, 54, 1), (0, 676, 674, 675, 54, 2), (2, 382, 381, 0, 66, 1), (2, 754, 753, 0, 66, 1), (1, 112, 111, 0, 52, 1), (0, 663, 661, 662, 52, 1), (0, 687, 686, 16, 52, 0), (0, 667, 666, 15, 52, 2), (0, 768, 767, 22, 52, 1), (0, 719, 718, 17, 52, 2), (0, 741, 740, 20, 52, 2), (0, 745, 744, 21, 52, 1), (0, 714, 712, 713, 52, 2), (1, 71, 70, 0, 49, 0), (0, 775, 773, 774, 49, 2), (0, 783, 781, 782, 49, 1), (0, 614, 612, 613, 49, 3), (0, 602, 600, 601, 49, 3), (0, 470, 468, 469, 49, 1), (0, 589, 588, 11, 49, 1), (0, 480, 478, 479, 49, 5), (0, 801, 799, 800, 49, 2), (0, 809, 807, 808, 49, 3), (0, 466, 464, 465, 49, 0), (0, 284, 282, 283, 49, 0), (0, 556, 555, 10, 49, 1), (0, 633, 631, 632, 49, 1), (0, 585, 583, 584, 49, 3), (0, 624, 622, 623, 49, 4), (0, 793, 791, 792, 49, 1), (0, 817, 815, 816, 49, 1), (0, 659, 657, 658, 49, 0), (1, 828, 827, 0, 56, 0), (0, 962, 961, 30, 56, 6), (0, 1076, 1074, 1075, 56, 2), (0, 995, 994, 32, 56, 0), (0, 1007, 1006, 35, 56, 1), (0, 1080, 1078, 1079, 56, 1), (0, 834, 833, 23, 56, 1), (0, 1003, 1002, 34, 56, 2), (0, 974, 972, 973, 56, 3), (0, 1063, 1062, 46, 56, 2), (0, 935, 934, 25, 56, 0), (0, 1015, 1014, 37, 56, 0), (0, 1044, 1043, 42, 56, 2), (0, 958, 957, 29, 56, 2), (0, 970, 968, 969, 56, 3), (0, 950, 949, 27, 56, 5), (0, 1048, 1047, 43, 56, 1), (0, 1088, 1086, 1087, 56, 1), (0, 1019, 1018, 38, 56, 2), (0, 954, 953, 28, 56, 4), (2, 943, 942, 0, 56, 1), (2, 946, 945, 0, 56, 3), (0, 931, 930, 24, 56, 1), (0, 1040, 1039, 41, 56, 2), (0, 924, 922, 923, 56, 5), (2, 1028, 1027, 0, 56, 1), (0, 987, 986, 31, 56, 2), (0, 999, 998, 33, 56, 2), (0, 1092, 1090, 1091, 56, 2), (0, 1052, 1051, 44, 56, 2), (0, 1023, 1022, 39, 56, 3), (0, 1096, 1094, 1095, 56, 3), (0, 1072, 1070, 1071, 56, 0), (0, 1036, 1034, 1035, 56, 0), (0, 983, 981, 982, 56, 1), (0, 966, 964, 965, 56, 3), (0, 978, 976, 977, 56, 4), (0, 1084, 1082, 1083, 56, 1), (0, 939, 938, 26, 56, 2), (0, 1032, 1031, 40, 56, 1), (0, 1011, 1010, 36, 56, 1), (0, 1059, 1058, 45, 56, 2), (0, 920, 918, 919, 56, 0), (0, 1100, 1098, 1099, 56, 1), (0, 1067, 1066, 47, 56, 2), (2, 927, 926, 0, 56, 3), (0, 991, 989, 990, 56, 0), (4, 771, 770, 0, 48, 4), (4, 779, 778, 0, 48, 3), (4, 610, 609, 0, 48, 4), (4, 598, 597, 0, 48, 5), (3, 0, 0, 0, 0, 1), (4, 474, 473, 0, 48, 7), (4, 797, 796, 0, 48, 4), (4, 805, 804, 0, 48, 5), (4, 629, 628, 0, 48, 3), (4, 581, 580, 0, 48, 5), (4, 620, 619, 0, 48, 5), (4, 789, 788, 0, 48, 2), (4, 813, 812, 0, 48, 3), (4, 654, 653, 0, 48, 2), (2, 309, 308, 0, 62, 2)]
def mf (y : AY) : Nat × Nat × Nat × Nat × Nat × Nat := mfl.getD y.1 (9, 0, 0, 0, 0, 0)
def mfP (y : AY) : Prop := (nm y).cls = cNm y.2.1 ∧ plainName (nm y).cls = true ∧ ((nm y).cls ≠ "java/lang/invoke/MethodHandle" ∧ (nm y).cls ≠ "java/lang/invoke/VarHandle") ∧ (parseMethodDescriptor (nm y).desc).map (fun d => d.parameters.length) = some (mf y).2.2.2.2.2 ∧ ((nm y).name = "<init>" ↔ y.2.2.2.2.2 = true) ∧ (parseMethodDescriptor (nm y).desc).map (fun d => d.returnType) = some y.2.2.2.2.1 ∧
  ((mf y).1 = 0 ∨ (mf y).1 = 1 ∨ (mf y).1 = 2 → lw_tbl[(mf y).2.1]? = some (.code (nm y) (bt y) y.2.2.2.1 y.2.2.2.2.1)) ∧
  ((mf y).1 = 0 ∨ (mf y).1 = 1 → lw_tbl[(mf y).2.2.1]? = some (.instanceMethod (nm y))) ∧ ((mf y).1 = 2 ∨ (mf y).1 = 4 → lw_tbl[(mf y).2.2.1]? = some (.static (nm y))) ∧
  ((mf y).1 = 0 → lw_tbl[(mf y).2.2.2.1]? = some (.selects (nm y).cls (nm y) (nm y))) ∧ ((mf y).1 ≠ 3 → lw_tbl[(mf y).2.2.2.2.1]? = some (.initialized (nm y).cls))
set_option maxRecDepth 100000 in
theorem mf_0 : mfP yNd_init := ⟨rfl, by decide +kernel, by decide +kernel, by decide +kernel, by decide +kernel, by decide +kernel, (fun _ => rfl), (fun _ => rfl), (fun h => absurd h (by decide)), (fun h => absurd h (by decide)), (fun _ => rfl)⟩
set_option maxRecDepth 100000 in
theorem mf_1 : mfP yNd_begin := ⟨rfl, by decide +kernel, by decide +kernel, by decide +kernel, by decide +kernel, by decide +kernel, (fun _ => rfl), (fun _ => rfl), (fun h => absurd h (by decide)), (fun _ => rfl), (fun _ => rfl)⟩
set_option maxRecDepth 100000 in
theorem mf_2 : mfP yNd_contentsLength := ⟨rfl, by decide +kernel, by decide +kernel, by decide +kernel, by decide +kernel, by decide +kernel, (fun _ => rfl), (fun _ => rfl), (fun h => absurd h (by decide)), (fun _ => rfl), (fun _ => rfl)⟩
set_option maxRecDepth 100000 in
theorem mf_3 : mfP yRd_init := ⟨rfl, by decide +kernel, by decide +kernel, by decide +kernel, by decide +kernel, by decide +kernel, (fun _ => rfl), (fun _ => rfl), (fun h => absurd h (by decide)), (fun h => absurd h (by decide)), (fun _ => rfl)⟩
set_option maxRecDepth 100000 in
theorem mf_4 : mfP yRd_addText := ⟨rfl, by decide +kernel, by decide +kernel, by decide +kernel, by decide +kernel, by decide +kernel, (fun _ => rfl), (fun _ => rfl), (fun h => absurd h (by decide)), (fun _ => rfl), (fun _ => rfl)⟩
set_option maxRecDepth 100000 in
theorem mf_5 : mfP yRd_faultOfContents := ⟨rfl, by decide +kernel, by decide +kernel, by decide +kernel, by decide +kernel, by decide +kernel, (fun _ => rfl), (fun _ => rfl), (fun h => absurd h (by decide)), (fun _ => rfl), (fun _ => rfl)⟩
set_option maxRecDepth 100000 in
theorem mf_6 : mfP yRd_faultOfEntry := ⟨rfl, by decide +kernel, by decide +kernel, by decide +kernel, by decide +kernel, by decide +kernel, (fun _ => rfl), (fun _ => rfl), (fun h => absurd h (by decide)), (fun _ => rfl), (fun _ => rfl)⟩
set_option maxRecDepth 100000 in
theorem mf_7 : mfP yRd_isMarked := ⟨rfl, by decide +kernel, by decide +kernel, by decide +kernel, by decide +kernel, by decide +kernel, (fun _ => rfl), (fun _ => rfl), (fun h => absurd h (by decide)), (fun _ => rfl), (fun _ => rfl)⟩
set_option maxRecDepth 100000 in
theorem mf_8 : mfP yRd_takeEntry := ⟨rfl, by decide +kernel, by decide +kernel, by decide +kernel, by decide +kernel, by decide +kernel, (fun _ => rfl), (fun _ => rfl), (fun h => absurd h (by decide)), (fun _ => rfl), (fun _ => rfl)⟩
set_option maxRecDepth 100000 in
theorem mf_9 : mfP yRd_takeKind := ⟨rfl, by decide +kernel, by decide +kernel, by decide +kernel, by decide +kernel, by decide +kernel, (fun _ => rfl), (fun _ => rfl), (fun h => absurd h (by decide)), (fun _ => rfl), (fun _ => rfl)⟩
set_option maxRecDepth 100000 in
theorem mf_10 : mfP yRd_takeNumbers := ⟨rfl, by decide +kernel, by decide +kernel, by decide +kernel, by decide +kernel, by decide +kernel, (fun _ => rfl), (fun _ => rfl), (fun h => absurd h (by decide)), (fun _ => rfl), (fun _ => rfl)⟩
set_option maxRecDepth 100000 in
theorem mf_11 : mfP yRd_takePath := ⟨rfl, by decide +kernel, by decide +kernel, by decide +kernel, by decide +kernel, by decide +kernel, (fun _ => rfl), (fun _ => rfl), (fun h => absurd h (by decide)), (fun _ => rfl), (fun _ => rfl)⟩
set_option maxRecDepth 100000 in
theorem mf_12 : mfP yRd_takeTarget := ⟨rfl, by decide +kernel, by decide +kernel, by decide +kernel, by decide +kernel, by decide +kernel, (fun _ => rfl), (fun _ => rfl), (fun h => absurd h (by decide)), (fun _ => rfl), (fun _ => rfl)⟩
set_option maxRecDepth 100000 in
theorem mf_13 : mfP yRd_takeTree := ⟨rfl, by decide +kernel, by decide +kernel, by decide +kernel, by decide +kernel, by decide +kernel, (fun _ => rfl), (fun _ => rfl), (fun h => absurd h (by decide)), (fun _ => rfl), (fun _ => rfl)⟩
set_option maxRecDepth 100000 in
theorem mf_14 : mfP yRw_init := ⟨rfl, by decide +kernel, by decide +kernel, by decide +kernel, by decide +kernel, by decide +kernel, (fun _ => rfl), (fun _ => rfl), (fun h => absurd h (by decide)), (fun h => absurd h (by decide)), (fun _ => rfl)⟩
set_option maxRecDepth 100000 in
theorem mf_15 : mfP yRw_addLetters := ⟨rfl, by decide +kernel, by decide +kernel, by decide +kernel, by decide +kernel, by decide +kernel, (fun _ => rfl), (fun _ => rfl), (fun h => absurd h (by decide)), (fun _ => rfl), (fun _ => rfl)⟩
set_option maxRecDepth 100000 in
theorem mf_16 : mfP yRw_at := ⟨rfl, by decide +kernel, by decide +kernel, by decide +kernel, by decide +kernel, by decide +kernel, (fun _ => rfl), (fun _ => rfl), (fun h => absurd h (by decide)), (fun _ => rfl), (fun _ => rfl)⟩
set_option maxRecDepth 100000 in
theorem mf_17 : mfP yRw_copySlice := ⟨rfl, by decide +kernel, by decide +kernel, by decide +kernel, by decide +kernel, by decide +kernel, (fun _ => rfl), (fun _ => rfl), (fun h => absurd h (by decide)), (fun _ => rfl), (fun _ => rfl)⟩
set_option maxRecDepth 100000 in
theorem mf_18 : mfP yRw_isNameOfAnyLength := ⟨rfl, by decide +kernel, by decide +kernel, by decide +kernel, by decide +kernel, by decide +kernel, (fun _ => rfl), (fun _ => rfl), (fun h => absurd h (by decide)), (fun _ => rfl), (fun _ => rfl)⟩
set_option maxRecDepth 100000 in
theorem mf_19 : mfP yRw_isSlice := ⟨rfl, by decide +kernel, by decide +kernel, by decide +kernel, by decide +kernel, by decide +kernel, (fun _ => rfl), (fun _ => rfl), (fun h => absurd h (by decide)), (fun _ => rfl), (fun _ => rfl)⟩
set_option maxRecDepth 100000 in
theorem mf_20 : mfP yRw_isTarget := ⟨rfl, by decide +kernel, by decide +kernel, by decide +kernel, by decide +kernel, by decide +kernel, (fun _ => rfl), (fun _ => rfl), (fun h => absurd h (by decide)), (fun _ => rfl), (fun _ => rfl)⟩
set_option maxRecDepth 100000 in
theorem mf_21 : mfP yRw_lastSlash := ⟨rfl, by decide +kernel, by decide +kernel, by decide +kernel, by decide +kernel, by decide +kernel, (fun _ => rfl), (fun _ => rfl), (fun h => absurd h (by decide)), (fun _ => rfl), (fun _ => rfl)⟩
set_option maxRecDepth 100000 in
theorem mf_22 : mfP yRw_order := ⟨rfl, by decide +kernel, by decide +kernel, by decide +kernel, by decide +kernel, by decide +kernel, (fun _ => rfl), (fun _ => rfl), (fun h => absurd h (by decide)), (fun _ => rfl), (fun _ => rfl)⟩
set_option maxRecDepth 100000 in
theorem mf_23 : mfP yRw_put := ⟨rfl, by decide +kernel, by decide +kernel, by decide +kernel, by decide +kernel, by decide +kernel, (fun _ => rfl), (fun _ => rfl), (fun h => absurd h (by decide)), (fun _ => rfl), (fun _ => rfl)⟩
set_option maxRecDepth 100000 in
theorem mf_24 : mfP yRw_putAll := ⟨rfl, by decide +kernel, by decide +kernel, by decide +kernel, by decide +kernel, by decide +kernel, (fun _ => rfl), (fun _ => rfl), (fun h => absurd h (by decide)), (fun _ => rfl), (fun _ => rfl)⟩
set_option maxRecDepth 100000 in
theorem mf_25 : mfP yRw_resize := ⟨rfl, by decide +kernel, by decide +kernel, by decide +kernel, by decide +kernel, by decide +kernel, (fun _ => rfl), (fun _ => rfl), (fun h => absurd h (by decide)), (fun _ => rfl), (fun _ => rfl)⟩
set_option maxRecDepth 100000 in
theorem mf_26 : mfP yTp_init := ⟨rfl, by decide +kernel, by decide +kernel, by decide +kernel, by decide +kernel, by decide +kernel, (fun _ => rfl), (fun _ => rfl), (fun h => absurd h (by decide)), (fun h => absurd h (by decide)), (fun _ => rfl)⟩
set_option maxRecDepth 100000 in
theorem mf_27 : mfP yTp_blocksOf := ⟨rfl, by decide +kernel, by decide +kernel, by decide +kernel, by decide +kernel, by decide +kernel, (fun _ => rfl), (fun h => absurd h (by decide)), (fun _ => rfl), (fun h => absurd h (by decide)), (fun _ => rfl)⟩
set_option maxRecDepth 100000 in
theorem mf_28 : mfP yTp_hasCheck := ⟨rfl, by decide +kernel, by decide +kernel, by decide +kernel, by decide +kernel, by decide +kernel, (fun _ => rfl), (fun _ => rfl), (fun h => absurd h (by decide)), (fun _ => rfl), (fun _ => rfl)⟩
set_option maxRecDepth 100000 in
theorem mf_29 : mfP yTp_hasMark := ⟨rfl, by decide +kernel, by decide +kernel, by decide +kernel, by decide +kernel, by decide +kernel, (fun _ => rfl), (fun _ => rfl), (fun h => absurd h (by decide)), (fun _ => rfl), (fun _ => rfl)⟩
set_option maxRecDepth 100000 in
theorem mf_30 : mfP yTp_isBlockOfZeros := ⟨rfl, by decide +kernel, by decide +kernel, by decide +kernel, by decide +kernel, by decide +kernel, (fun _ => rfl), (fun _ => rfl), (fun h => absurd h (by decide)), (fun _ => rfl), (fun _ => rfl)⟩
set_option maxRecDepth 100000 in
theorem mf_31 : mfP yTp_isZeros := ⟨rfl, by decide +kernel, by decide +kernel, by decide +kernel, by decide +kernel, by decide +kernel, (fun _ => rfl), (fun _ => rfl), (fun h => absurd h (by decide)), (fun _ => rfl), (fun _ => rfl)⟩
set_option maxRecDepth 100000 in
theorem mf_32 : mfP yTp_octal := ⟨rfl, by decide +kernel, by decide +kernel, by decide +kernel, by decide +kernel, by decide +kernel, (fun _ => rfl), (fun _ => rfl), (fun h => absurd h (by decide)), (fun _ => rfl), (fun _ => rfl)⟩
set_option maxRecDepth 100000 in
theorem mf_33 : mfP yTp_putCheck := ⟨rfl, by decide +kernel, by decide +kernel, by decide +kernel, by decide +kernel, by decide +kernel, (fun _ => rfl), (fun _ => rfl), (fun h => absurd h (by decide)), (fun _ => rfl), (fun _ => rfl)⟩
set_option maxRecDepth 100000 in
theorem mf_34 : mfP yTp_putMark := ⟨rfl, by decide +kernel, by decide +kernel, by decide +kernel, by decide +kernel, by decide +kernel, (fun _ => rfl), (fun _ => rfl), (fun h => absurd h (by decide)), (fun _ => rfl), (fun _ => rfl)⟩
set_option maxRecDepth 100000 in
theorem mf_35 : mfP yTp_putOctal := ⟨rfl, by decide +kernel, by decide +kernel, by decide +kernel, by decide +kernel, by decide +kernel, (fun _ => rfl), (fun _ => rfl), (fun h => absurd h (by decide)), (fun _ => rfl), (fun _ => rfl)⟩
set_option maxRecDepth 100000 in
theorem mf_36 : mfP yTp_sum := ⟨rfl, by decide +kernel, by decide +kernel, by decide +kernel, by decide +kernel, by decide +kernel, (fun _ => rfl), (fun _ => rfl), (fun h => absurd h (by decide)), (fun _ => rfl), (fun _ => rfl)⟩
set_option maxRecDepth 100000 in
theorem mf_37 : mfP yTp_wholeBlocks := ⟨rfl, by decide +kernel, by decide +kernel, by decide +kernel, by decide +kernel, by decide +kernel, (fun _ => rfl), (fun _ => rfl), (fun h => absurd h (by decide)), (fun _ => rfl), (fun _ => rfl)⟩
set_option maxRecDepth 100000 in
theorem mf_38 : mfP yTr_init := ⟨rfl, by decide +kernel, by decide +kernel, by decide +kernel, by decide +kernel, by decide +kernel, (fun _ => rfl), (fun _ => rfl), (fun h => absurd h (by decide)), (fun h => absurd h (by decide)), (fun _ => rfl)⟩
set_option maxRecDepth 100000 in
theorem mf_39 : mfP yTr_add := ⟨rfl, by decide +kernel, by decide +kernel, by decide +kernel, by decide +kernel, by decide +kernel, (fun _ => rfl), (fun _ => rfl), (fun h => absurd h (by decide)), (fun _ => rfl), (fun _ => rfl)⟩
set_option maxRecDepth 100000 in
theorem mf_40 : mfP yTr_childNamed := ⟨rfl, by decide +kernel, by decide +kernel, by decide +kernel, by decide +kernel, by decide +kernel, (fun _ => rfl), (fun _ => rfl), (fun h => absurd h (by decide)), (fun _ => rfl), (fun _ => rfl)⟩
set_option maxRecDepth 100000 in
theorem mf_41 : mfP yTr_clear := ⟨rfl, by decide +kernel, by decide +kernel, by decide +kernel, by decide +kernel, by decide +kernel, (fun _ => rfl), (fun _ => rfl), (fun h => absurd h (by decide)), (fun _ => rfl), (fun _ => rfl)⟩
set_option maxRecDepth 100000 in
theorem mf_42 : mfP yTr_closeGaps := ⟨rfl, by decide +kernel, by decide +kernel, by decide +kernel, by decide +kernel, by decide +kernel, (fun _ => rfl), (fun _ => rfl), (fun h => absurd h (by decide)), (fun _ => rfl), (fun _ => rfl)⟩
set_option maxRecDepth 100000 in
theorem mf_43 : mfP yTr_comesBehind := ⟨rfl, by decide +kernel, by decide +kernel, by decide +kernel, by decide +kernel, by decide +kernel, (fun _ => rfl), (fun _ => rfl), (fun h => absurd h (by decide)), (fun _ => rfl), (fun _ => rfl)⟩
set_option maxRecDepth 100000 in
theorem mf_44 : mfP yTr_drop := ⟨rfl, by decide +kernel, by decide +kernel, by decide +kernel, by decide +kernel, by decide +kernel, (fun _ => rfl), (fun _ => rfl), (fun h => absurd h (by decide)), (fun _ => rfl), (fun _ => rfl)⟩
set_option maxRecDepth 100000 in
theorem mf_45 : mfP yTr_follower := ⟨rfl, by decide +kernel, by decide +kernel, by decide +kernel, by decide +kernel, by decide +kernel, (fun _ => rfl), (fun _ => rfl), (fun h => absurd h (by decide)), (fun _ => rfl), (fun _ => rfl)⟩
set_option maxRecDepth 100000 in
theorem mf_46 : mfP yTr_has := ⟨rfl, by decide +kernel, by decide +kernel, by decide +kernel, by decide +kernel, by decide +kernel, (fun _ => rfl), (fun _ => rfl), (fun h => absurd h (by decide)), (fun _ => rfl), (fun _ => rfl)⟩
set_option maxRecDepth 100000 in
theorem mf_47 : mfP yTr_isGone := ⟨rfl, by decide +kernel, by decide +kernel, by decide +kernel, by decide +kernel, by decide +kernel, (fun _ => rfl), (fun _ => rfl), (fun h => absurd h (by decide)), (fun _ => rfl), (fun _ => rfl)⟩
set_option maxRecDepth 100000 in
theorem mf_48 : mfP yTr_isOfKind := ⟨rfl, by decide +kernel, by decide +kernel, by decide +kernel, by decide +kernel, by decide +kernel, (fun _ => rfl), (fun _ => rfl), (fun h => absurd h (by decide)), (fun _ => rfl), (fun _ => rfl)⟩
set_option maxRecDepth 100000 in
theorem mf_49 : mfP yTr_longestPath := ⟨rfl, by decide +kernel, by decide +kernel, by decide +kernel, by decide +kernel, by decide +kernel, (fun _ => rfl), (fun _ => rfl), (fun h => absurd h (by decide)), (fun _ => rfl), (fun _ => rfl)⟩
set_option maxRecDepth 100000 in
theorem mf_50 : mfP yTr_lookUp := ⟨rfl, by decide +kernel, by decide +kernel, by decide +kernel, by decide +kernel, by decide +kernel, (fun _ => rfl), (fun _ => rfl), (fun h => absurd h (by decide)), (fun _ => rfl), (fun _ => rfl)⟩
set_option maxRecDepth 100000 in
theorem mf_51 : mfP yTr_newNumber := ⟨rfl, by decide +kernel, by decide +kernel, by decide +kernel, by decide +kernel, by decide +kernel, (fun _ => rfl), (fun _ => rfl), (fun h => absurd h (by decide)), (fun _ => rfl), (fun _ => rfl)⟩
set_option maxRecDepth 100000 in
theorem mf_52 : mfP yTr_nextChild := ⟨rfl, by decide +kernel, by decide +kernel, by decide +kernel, by decide +kernel, by decide +kernel, (fun _ => rfl), (fun _ => rfl), (fun h => absurd h (by decide)), (fun _ => rfl), (fun _ => rfl)⟩
set_option maxRecDepth 100000 in
theorem mf_53 : mfP yTr_pathLength := ⟨rfl, by decide +kernel, by decide +kernel, by decide +kernel, by decide +kernel, by decide +kernel, (fun _ => rfl), (fun _ => rfl), (fun h => absurd h (by decide)), (fun _ => rfl), (fun _ => rfl)⟩
set_option maxRecDepth 100000 in
theorem mf_54 : mfP yTr_spellPath := ⟨rfl, by decide +kernel, by decide +kernel, by decide +kernel, by decide +kernel, by decide +kernel, (fun _ => rfl), (fun _ => rfl), (fun h => absurd h (by decide)), (fun _ => rfl), (fun _ => rfl)⟩
set_option maxRecDepth 100000 in
theorem mf_55 : mfP yTt_kindOf := ⟨rfl, by decide +kernel, by decide +kernel, by decide +kernel, by decide +kernel, by decide +kernel, (fun _ => rfl), (fun h => absurd h (by decide)), (fun _ => rfl), (fun h => absurd h (by decide)), (fun _ => rfl)⟩
set_option maxRecDepth 100000 in
theorem mf_56 : mfP yTt_typeOf := ⟨rfl, by decide +kernel, by decide +kernel, by decide +kernel, by decide +kernel, by decide +kernel, (fun _ => rfl), (fun h => absurd h (by decide)), (fun _ => rfl), (fun h => absurd h (by decide)), (fun _ => rfl)⟩
set_option maxRecDepth 100000 in
theorem mf_57 : mfP yWr_init := ⟨rfl, by decide +kernel, by decide +kernel, by decide +kernel, by decide +kernel, by decide +kernel, (fun _ => rfl), (fun _ => rfl), (fun h => absurd h (by decide)), (fun h => absurd h (by decide)), (fun _ => rfl)⟩
set_option maxRecDepth 100000 in
theorem mf_58 : mfP yWr_blocksFor := ⟨rfl, by decide +kernel, by decide +kernel, by decide +kernel, by decide +kernel, by decide +kernel, (fun _ => rfl), (fun _ => rfl), (fun h => absurd h (by decide)), (fun _ => rfl), (fun _ => rfl)⟩
set_option maxRecDepth 100000 in
theorem mf_59 : mfP yWr_cutOfPath := ⟨rfl, by decide +kernel, by decide +kernel, by decide +kernel, by decide +kernel, by decide +kernel, (fun _ => rfl), (fun _ => rfl), (fun h => absurd h (by decide)), (fun _ => rfl), (fun _ => rfl)⟩
set_option maxRecDepth 100000 in
theorem mf_60 : mfP yWr_isTellable := ⟨rfl, by decide +kernel, by decide +kernel, by decide +kernel, by decide +kernel, by decide +kernel, (fun _ => rfl), (fun _ => rfl), (fun h => absurd h (by decide)), (fun _ => rfl), (fun _ => rfl)⟩
set_option maxRecDepth 100000 in
theorem mf_61 : mfP yWr_putContents := ⟨rfl, by decide +kernel, by decide +kernel, by decide +kernel, by decide +kernel, by decide +kernel, (fun _ => rfl), (fun _ => rfl), (fun h => absurd h (by decide)), (fun _ => rfl), (fun _ => rfl)⟩
set_option maxRecDepth 100000 in
theorem mf_62 : mfP yWr_putEntries := ⟨rfl, by decide +kernel, by decide +kernel, by decide +kernel, by decide +kernel, by decide +kernel, (fun _ => rfl), (fun _ => rfl), (fun h => absurd h (by decide)), (fun _ => rfl), (fun _ => rfl)⟩
set_option maxRecDepth 100000 in
theorem mf_63 : mfP yWr_putHeader := ⟨rfl, by decide +kernel, by decide +kernel, by decide +kernel, by decide +kernel, by decide +kernel, (fun _ => rfl), (fun _ => rfl), (fun h => absurd h (by decide)), (fun _ => rfl), (fun _ => rfl)⟩
set_option maxRecDepth 100000 in
theorem mf_64 : mfP yWr_putPath := ⟨rfl, by decide +kernel, by decide +kernel, by decide +kernel, by decide +kernel, by decide +kernel, (fun _ => rfl), (fun _ => rfl), (fun h => absurd h (by decide)), (fun _ => rfl), (fun _ => rfl)⟩
set_option maxRecDepth 100000 in
theorem mf_65 : mfP yWr_putTree := ⟨rfl, by decide +kernel, by decide +kernel, by decide +kernel, by decide +kernel, by decide +kernel, (fun _ => rfl), (fun _ => rfl), (fun h => absurd h (by decide)), (fun _ => rfl), (fun _ => rfl)⟩
set_option maxRecDepth 100000 in
theorem mf_66 : mfP yTY_init := ⟨rfl, by decide +kernel, by decide +kernel, by decide +kernel, by decide +kernel, by decide +kernel, (fun _ => rfl), (fun _ => rfl), (fun h => absurd h (by decide)), (fun h => absurd h (by decide)), (fun _ => rfl)⟩
set_option maxRecDepth 100000 in
theorem mf_67 : mfP yTY_alter := ⟨rfl, by decide +kernel, by decide +kernel, by decide +kernel, by decide +kernel, by decide +kernel, (fun _ => rfl), (fun _ => rfl), (fun h => absurd h (by decide)), (fun _ => rfl), (fun _ => rfl)⟩
set_option maxRecDepth 100000 in
theorem mf_68 : mfP yTY_check := ⟨rfl, by decide +kernel, by decide +kernel, by decide +kernel, by decide +kernel, by decide +kernel, (fun _ => rfl), (fun _ => rfl), (fun h => absurd h (by decide)), (fun _ => rfl), (fun _ => rfl)⟩
set_option maxRecDepth 100000 in
theorem mf_69 : mfP yTY_contents := ⟨rfl, by decide +kernel, by decide +kernel, by decide +kernel, by decide +kernel, by decide +kernel, (fun _ => rfl), (fun _ => rfl), (fun h => absurd h (by decide)), (fun _ => rfl), (fun _ => rfl)⟩
set_option maxRecDepth 100000 in
theorem mf_70 : mfP yTY_fill := ⟨rfl, by decide +kernel, by decide +kernel, by decide +kernel, by decide +kernel, by decide +kernel, (fun _ => rfl), (fun _ => rfl), (fun h => absurd h (by decide)), (fun _ => rfl), (fun _ => rfl)⟩
set_option maxRecDepth 100000 in
theorem mf_71 : mfP yTY_hand := ⟨rfl, by decide +kernel, by decide +kernel, by decide +kernel, by decide +kernel, by decide +kernel, (fun _ => rfl), (fun _ => rfl), (fun h => absurd h (by decide)), (fun _ => rfl), (fun _ => rfl)⟩
set_option maxRecDepth 100000 in
theorem mf_72 : mfP yTY_known := ⟨rfl, by decide +kernel, by decide +kernel, by decide +kernel, by decide +kernel, by decide +kernel, (fun _ => rfl), (fun _ => rfl), (fun h => absurd h (by decide)), (fun _ => rfl), (fun _ => rfl)⟩
set_option maxRecDepth 100000 in
theorem mf_73 : mfP yTY_make := ⟨rfl, by decide +kernel, by decide +kernel, by decide +kernel, by decide +kernel, by decide +kernel, (fun _ => rfl), (fun _ => rfl), (fun h => absurd h (by decide)), (fun _ => rfl), (fun _ => rfl)⟩
set_option maxRecDepth 100000 in
theorem mf_74 : mfP yTY_node := ⟨rfl, by decide +kernel, by decide +kernel, by decide +kernel, by decide +kernel, by decide +kernel, (fun _ => rfl), (fun _ => rfl), (fun h => absurd h (by decide)), (fun _ => rfl), (fun _ => rfl)⟩
set_option maxRecDepth 100000 in
theorem mf_75 : mfP yTY_part := ⟨rfl, by decide +kernel, by decide +kernel, by decide +kernel, by decide +kernel, by decide +kernel, (fun _ => rfl), (fun _ => rfl), (fun h => absurd h (by decide)), (fun _ => rfl), (fun _ => rfl)⟩
set_option maxRecDepth 100000 in
theorem mf_76 : mfP yTY_place := ⟨rfl, by decide +kernel, by decide +kernel, by decide +kernel, by decide +kernel, by decide +kernel, (fun _ => rfl), (fun _ => rfl), (fun h => absurd h (by decide)), (fun _ => rfl), (fun _ => rfl)⟩
set_option maxRecDepth 100000 in
theorem mf_77 : mfP yTY_read := ⟨rfl, by decide +kernel, by decide +kernel, by decide +kernel, by decide +kernel, by decide +kernel, (fun _ => rfl), (fun _ => rfl), (fun h => absurd h (by decide)), (fun _ => rfl), (fun _ => rfl)⟩
set_option maxRecDepth 100000 in
theorem mf_78 : mfP yTY_refuseName := ⟨rfl, by decide +kernel, by decide +kernel, by decide +kernel, by decide +kernel, by decide +kernel, (fun _ => rfl), (fun _ => rfl), (fun h => absurd h (by decide)), (fun _ => rfl), (fun _ => rfl)⟩
set_option maxRecDepth 100000 in
theorem mf_79 : mfP yTY_remove := ⟨rfl, by decide +kernel, by decide +kernel, by decide +kernel, by decide +kernel, by decide +kernel, (fun _ => rfl), (fun _ => rfl), (fun h => absurd h (by decide)), (fun _ => rfl), (fun _ => rfl)⟩
set_option maxRecDepth 100000 in
theorem mf_80 : mfP yTY_rename := ⟨rfl, by decide +kernel, by decide +kernel, by decide +kernel, by decide +kernel, by decide +kernel, (fun _ => rfl), (fun _ => rfl), (fun h => absurd h (by decide)), (fun _ => rfl), (fun _ => rfl)⟩
set_option maxRecDepth 100000 in
theorem mf_81 : mfP yTY_set := ⟨rfl, by decide +kernel, by decide +kernel, by decide +kernel, by decide +kernel, by decide +kernel, (fun _ => rfl), (fun _ => rfl), (fun h => absurd h (by decide)), (fun _ => rfl), (fun _ => rfl)⟩
set_option maxRecDepth 100000 in
theorem mf_82 : mfP yTY_size := ⟨rfl, by decide +kernel, by decide +kernel, by decide +kernel, by decide +kernel, by decide +kernel, (fun _ => rfl), (fun _ => rfl), (fun h => absurd h (by decide)), (fun _ => rfl), (fun _ => rfl)⟩
set_option maxRecDepth 100000 in
theorem mf_83 : mfP yTY_total := ⟨rfl, by decide +kernel, by decide +kernel, by decide +kernel, by decide +kernel, by decide +kernel, (fun _ => rfl), (fun _ => rfl), (fun h => absurd h (by decide)), (fun _ => rfl), (fun _ => rfl)⟩
set_option maxRecDepth 100000 in
theorem mf_84 : mfP yTY_write := ⟨rfl, by decide +kernel, by decide +kernel, by decide +kernel, by decide +kernel, by decide +kernel, (fun _ => rfl), (fun _ => rfl), (fun h => absurd h (by decide)), (fun _ => rfl), (fun _ => rfl)⟩
set_option maxRecDepth 100000 in
theorem mf_85 : mfP yMd_init := ⟨rfl, by decide +kernel, by decide +kernel, by decide +kernel, by decide +kernel, by decide +kernel, (fun _ => rfl), (fun _ => rfl), (fun h => absurd h (by decide)), (fun h => absurd h (by decide)), (fun _ => rfl)⟩
set_option maxRecDepth 100000 in
theorem mf_86 : mfP yMd_add := ⟨rfl, by decide +kernel, by decide +kernel, by decide +kernel, by decide +kernel, by decide +kernel, (fun _ => rfl), (fun _ => rfl), (fun h => absurd h (by decide)), (fun _ => rfl), (fun _ => rfl)⟩
set_option maxRecDepth 100000 in
theorem mf_87 : mfP yMd_alter := ⟨rfl, by decide +kernel, by decide +kernel, by decide +kernel, by decide +kernel, by decide +kernel, (fun _ => rfl), (fun _ => rfl), (fun h => absurd h (by decide)), (fun _ => rfl), (fun _ => rfl)⟩
set_option maxRecDepth 100000 in
theorem mf_88 : mfP yMd_arrange := ⟨rfl, by decide +kernel, by decide +kernel, by decide +kernel, by decide +kernel, by decide +kernel, (fun _ => rfl), (fun _ => rfl), (fun h => absurd h (by decide)), (fun _ => rfl), (fun _ => rfl)⟩
set_option maxRecDepth 100000 in
theorem mf_89 : mfP yMd_blocksOf := ⟨rfl, by decide +kernel, by decide +kernel, by decide +kernel, by decide +kernel, by decide +kernel, (fun _ => rfl), (fun _ => rfl), (fun h => absurd h (by decide)), (fun _ => rfl), (fun _ => rfl)⟩
set_option maxRecDepth 100000 in
theorem mf_90 : mfP yMd_check := ⟨rfl, by decide +kernel, by decide +kernel, by decide +kernel, by decide +kernel, by decide +kernel, (fun _ => rfl), (fun _ => rfl), (fun h => absurd h (by decide)), (fun _ => rfl), (fun _ => rfl)⟩
set_option maxRecDepth 100000 in
theorem mf_91 : mfP yMd_clear := ⟨rfl, by decide +kernel, by decide +kernel, by decide +kernel, by decide +kernel, by decide +kernel, (fun _ => rfl), (fun _ => rfl), (fun h => absurd h (by decide)), (fun _ => rfl), (fun _ => rfl)⟩
set_option maxRecDepth 100000 in
theorem mf_92 : mfP yMd_compare := ⟨rfl, by decide +kernel, by decide +kernel, by decide +kernel, by decide +kernel, by decide +kernel, (fun _ => rfl), (fun _ => rfl), (fun h => absurd h (by decide)), (fun _ => rfl), (fun _ => rfl)⟩
set_option maxRecDepth 100000 in
theorem mf_93 : mfP yMd_contents := ⟨rfl, by decide +kernel, by decide +kernel, by decide +kernel, by decide +kernel, by decide +kernel, (fun _ => rfl), (fun _ => rfl), (fun h => absurd h (by decide)), (fun _ => rfl), (fun _ => rfl)⟩
set_option maxRecDepth 100000 in
theorem mf_94 : mfP yMd_copyIn := ⟨rfl, by decide +kernel, by decide +kernel, by decide +kernel, by decide +kernel, by decide +kernel, (fun _ => rfl), (fun _ => rfl), (fun h => absurd h (by decide)), (fun _ => rfl), (fun _ => rfl)⟩
set_option maxRecDepth 100000 in
theorem mf_95 : mfP yMd_count := ⟨rfl, by decide +kernel, by decide +kernel, by decide +kernel, by decide +kernel, by decide +kernel, (fun _ => rfl), (fun _ => rfl), (fun h => absurd h (by decide)), (fun _ => rfl), (fun _ => rfl)⟩
set_option maxRecDepth 100000 in
theorem mf_96 : mfP yMd_cutOf := ⟨rfl, by decide +kernel, by decide +kernel, by decide +kernel, by decide +kernel, by decide +kernel, (fun _ => rfl), (fun _ => rfl), (fun h => absurd h (by decide)), (fun _ => rfl), (fun _ => rfl)⟩
set_option maxRecDepth 100000 in
theorem mf_97 : mfP yMd_entry := ⟨rfl, by decide +kernel, by decide +kernel, by decide +kernel, by decide +kernel, by decide +kernel, (fun _ => rfl), (fun _ => rfl), (fun h => absurd h (by decide)), (fun _ => rfl), (fun _ => rfl)⟩
set_option maxRecDepth 100000 in
theorem mf_98 : mfP yMd_fails := ⟨rfl, by decide +kernel, by decide +kernel, by decide +kernel, by decide +kernel, by decide +kernel, (fun _ => rfl), (fun _ => rfl), (fun h => absurd h (by decide)), (fun _ => rfl), (fun _ => rfl)⟩
set_option maxRecDepth 100000 in
theorem mf_99 : mfP yMd_fill := ⟨rfl, by decide +kernel, by decide +kernel, by decide +kernel, by decide +kernel, by decide +kernel, (fun _ => rfl), (fun _ => rfl), (fun h => absurd h (by decide)), (fun _ => rfl), (fun _ => rfl)⟩
set_option maxRecDepth 100000 in
theorem mf_100 : mfP yMd_find := ⟨rfl, by decide +kernel, by decide +kernel, by decide +kernel, by decide +kernel, by decide +kernel, (fun _ => rfl), (fun _ => rfl), (fun h => absurd h (by decide)), (fun _ => rfl), (fun _ => rfl)⟩
set_option maxRecDepth 100000 in
theorem mf_101 : mfP yMd_firstFault := ⟨rfl, by decide +kernel, by decide +kernel, by decide +kernel, by decide +kernel, by decide +kernel, (fun _ => rfl), (fun _ => rfl), (fun h => absurd h (by decide)), (fun _ => rfl), (fun _ => rfl)⟩
set_option maxRecDepth 100000 in
theorem mf_102 : mfP yMd_hand := ⟨rfl, by decide +kernel, by decide +kernel, by decide +kernel, by decide +kernel, by decide +kernel, (fun _ => rfl), (fun _ => rfl), (fun h => absurd h (by decide)), (fun _ => rfl), (fun _ => rfl)⟩
set_option maxRecDepth 100000 in
theorem mf_103 : mfP yMd_head := ⟨rfl, by decide +kernel, by decide +kernel, by decide +kernel, by decide +kernel, by decide +kernel, (fun _ => rfl), (fun _ => rfl), (fun h => absurd h (by decide)), (fun _ => rfl), (fun _ => rfl)⟩
set_option maxRecDepth 100000 in
theorem mf_104 : mfP yMd_isCalled := ⟨rfl, by decide +kernel, by decide +kernel, by decide +kernel, by decide +kernel, by decide +kernel, (fun _ => rfl), (fun _ => rfl), (fun h => absurd h (by decide)), (fun _ => rfl), (fun _ => rfl)⟩
set_option maxRecDepth 100000 in
theorem mf_105 : mfP yMd_isLetter := ⟨rfl, by decide +kernel, by decide +kernel, by decide +kernel, by decide +kernel, by decide +kernel, (fun _ => rfl), (fun h => absurd h (by decide)), (fun _ => rfl), (fun h => absurd h (by decide)), (fun _ => rfl)⟩
set_option maxRecDepth 100000 in
theorem mf_106 : mfP yMd_isName := ⟨rfl, by decide +kernel, by decide +kernel, by decide +kernel, by decide +kernel, by decide +kernel, (fun _ => rfl), (fun h => absurd h (by decide)), (fun _ => rfl), (fun h => absurd h (by decide)), (fun _ => rfl)⟩
set_option maxRecDepth 100000 in
theorem mf_107 : mfP yMd_isNode := ⟨rfl, by decide +kernel, by decide +kernel, by decide +kernel, by decide +kernel, by decide +kernel, (fun _ => rfl), (fun _ => rfl), (fun h => absurd h (by decide)), (fun _ => rfl), (fun _ => rfl)⟩
set_option maxRecDepth 100000 in
theorem mf_108 : mfP yMd_isZero := ⟨rfl, by decide +kernel, by decide +kernel, by decide +kernel, by decide +kernel, by decide +kernel, (fun _ => rfl), (fun _ => rfl), (fun h => absurd h (by decide)), (fun _ => rfl), (fun _ => rfl)⟩
set_option maxRecDepth 100000 in
theorem mf_109 : mfP yMd_make := ⟨rfl, by decide +kernel, by decide +kernel, by decide +kernel, by decide +kernel, by decide +kernel, (fun _ => rfl), (fun _ => rfl), (fun h => absurd h (by decide)), (fun _ => rfl), (fun _ => rfl)⟩
set_option maxRecDepth 100000 in
theorem mf_110 : mfP yMd_markOf := ⟨rfl, by decide +kernel, by decide +kernel, by decide +kernel, by decide +kernel, by decide +kernel, (fun _ => rfl), (fun h => absurd h (by decide)), (fun _ => rfl), (fun h => absurd h (by decide)), (fun _ => rfl)⟩
set_option maxRecDepth 100000 in
theorem mf_111 : mfP yMd_move := ⟨rfl, by decide +kernel, by decide +kernel, by decide +kernel, by decide +kernel, by decide +kernel, (fun _ => rfl), (fun _ => rfl), (fun h => absurd h (by decide)), (fun _ => rfl), (fun _ => rfl)⟩
set_option maxRecDepth 100000 in
theorem mf_112 : mfP yMd_next := ⟨rfl, by decide +kernel, by decide +kernel, by decide +kernel, by decide +kernel, by decide +kernel, (fun _ => rfl), (fun _ => rfl), (fun h => absurd h (by decide)), (fun _ => rfl), (fun _ => rfl)⟩
set_option maxRecDepth 100000 in
theorem mf_113 : mfP yMd_node := ⟨rfl, by decide +kernel, by decide +kernel, by decide +kernel, by decide +kernel, by decide +kernel, (fun _ => rfl), (fun _ => rfl), (fun h => absurd h (by decide)), (fun _ => rfl), (fun _ => rfl)⟩
set_option maxRecDepth 100000 in
theorem mf_114 : mfP yMd_number := ⟨rfl, by decide +kernel, by decide +kernel, by decide +kernel, by decide +kernel, by decide +kernel, (fun _ => rfl), (fun _ => rfl), (fun h => absurd h (by decide)), (fun _ => rfl), (fun _ => rfl)⟩
set_option maxRecDepth 100000 in
theorem mf_115 : mfP yMd_octal := ⟨rfl, by decide +kernel, by decide +kernel, by decide +kernel, by decide +kernel, by decide +kernel, (fun _ => rfl), (fun _ => rfl), (fun h => absurd h (by decide)), (fun _ => rfl), (fun _ => rfl)⟩
set_option maxRecDepth 100000 in
theorem mf_116 : mfP yMd_part := ⟨rfl, by decide +kernel, by decide +kernel, by decide +kernel, by decide +kernel, by decide +kernel, (fun _ => rfl), (fun _ => rfl), (fun h => absurd h (by decide)), (fun _ => rfl), (fun _ => rfl)⟩
set_option maxRecDepth 100000 in
theorem mf_117 : mfP yMd_place := ⟨rfl, by decide +kernel, by decide +kernel, by decide +kernel, by decide +kernel, by decide +kernel, (fun _ => rfl), (fun _ => rfl), (fun h => absurd h (by decide)), (fun _ => rfl), (fun _ => rfl)⟩
set_option maxRecDepth 100000 in
theorem mf_118 : mfP yMd_read := ⟨rfl, by decide +kernel, by decide +kernel, by decide +kernel, by decide +kernel, by decide +kernel, (fun _ => rfl), (fun _ => rfl), (fun h => absurd h (by decide)), (fun _ => rfl), (fun _ => rfl)⟩
set_option maxRecDepth 100000 in
theorem mf_119 : mfP yMd_remove := ⟨rfl, by decide +kernel, by decide +kernel, by decide +kernel, by decide +kernel, by decide +kernel, (fun _ => rfl), (fun _ => rfl), (fun h => absurd h (by decide)), (fun _ => rfl), (fun _ => rfl)⟩
set_option maxRecDepth 100000 in
theorem mf_120 : mfP yMd_rename := ⟨rfl, by decide +kernel, by decide +kernel, by decide +kernel, by decide +kernel, by decide +kernel, (fun _ => rfl), (fun _ => rfl), (fun h => absurd h (by decide)), (fun _ => rfl), (fun _ => rfl)⟩
set_option maxRecDepth 100000 in
theorem mf_121 : mfP yMd_set := ⟨rfl, by decide +kernel, by decide +kernel, by decide +kernel, by decide +kernel, by decide +kernel, (fun _ => rfl), (fun _ => rfl), (fun h => absurd h (by decide)), (fun _ => rfl), (fun _ => rfl)⟩
set_option maxRecDepth 100000 in
theorem mf_122 : mfP yMd_size := ⟨rfl, by decide +kernel, by decide +kernel, by decide +kernel, by decide +kernel, by decide +kernel, (fun _ => rfl), (fun _ => rfl), (fun h => absurd h (by decide)), (fun _ => rfl), (fun _ => rfl)⟩
set_option maxRecDepth 100000 in
theorem mf_123 : mfP yMd_spell := ⟨rfl, by decide +kernel, by decide +kernel, by decide +kernel, by decide +kernel, by decide +kernel, (fun _ => rfl), (fun _ => rfl), (fun h => absurd h (by decide)), (fun _ => rfl), (fun _ => rfl)⟩
set_option maxRecDepth 100000 in
theorem mf_124 : mfP yMd_sum := ⟨rfl, by decide +kernel, by decide +kernel, by decide +kernel, by decide +kernel, by decide +kernel, (fun _ => rfl), (fun _ => rfl), (fun h => absurd h (by decide)), (fun _ => rfl), (fun _ => rfl)⟩
set_option maxRecDepth 100000 in
theorem mf_125 : mfP yMd_tell := ⟨rfl, by decide +kernel, by decide +kernel, by decide +kernel, by decide +kernel, by decide +kernel, (fun _ => rfl), (fun _ => rfl), (fun h => absurd h (by decide)), (fun _ => rfl), (fun _ => rfl)⟩
set_option maxRecDepth 100000 in
theorem mf_126 : mfP yMd_textOf := ⟨rfl, by decide +kernel, by decide +kernel, by decide +kernel, by decide +kernel, by decide +kernel, (fun _ => rfl), (fun _ => rfl), (fun h => absurd h (by decide)), (fun _ => rfl), (fun _ => rfl)⟩
set_option maxRecDepth 100000 in
theorem mf_127 : mfP yMd_thrown := ⟨rfl, by decide +kernel, by decide +kernel, by decide +kernel, by decide +kernel, by decide +kernel, (fun _ => rfl), (fun _ => rfl), (fun h => absurd h (by decide)), (fun _ => rfl), (fun _ => rfl)⟩
set_option maxRecDepth 100000 in
theorem mf_128 : mfP yMd_total := ⟨rfl, by decide +kernel, by decide +kernel, by decide +kernel, by decide +kernel, by decide +kernel, (fun _ => rfl), (fun _ => rfl), (fun h => absurd h (by decide)), (fun _ => rfl), (fun _ => rfl)⟩
set_option maxRecDepth 100000 in
theorem mf_129 : mfP yMd_walk := ⟨rfl, by decide +kernel, by decide +kernel, by decide +kernel, by decide +kernel, by decide +kernel, (fun _ => rfl), (fun _ => rfl), (fun h => absurd h (by decide)), (fun _ => rfl), (fun _ => rfl)⟩
set_option maxRecDepth 100000 in
theorem mf_130 : mfP yMd_within := ⟨rfl, by decide +kernel, by decide +kernel, by decide +kernel, by decide +kernel, by decide +kernel, (fun _ => rfl), (fun h => absurd h (by decide)), (fun _ => rfl), (fun h => absurd h (by decide)), (fun _ => rfl)⟩
set_option maxRecDepth 100000 in
theorem mf_131 : mfP yMd_write := ⟨rfl, by decide +kernel, by decide +kernel, by decide +kernel, by decide +kernel, by decide +kernel, (fun _ => rfl), (fun _ => rfl), (fun h => absurd h (by decide)), (fun _ => rfl), (fun _ => rfl)⟩
set_option maxRecDepth 100000 in
theorem mf_132 : mfP yLw_alter := ⟨rfl, by decide +kernel, by decide +kernel, by decide +kernel, by decide +kernel, by decide +kernel, (fun h => absurd h (by decide)), (fun h => absurd h (by decide)), (fun _ => rfl), (fun h => absurd h (by decide)), (fun _ => rfl)⟩
set_option maxRecDepth 100000 in
theorem mf_133 : mfP yLw_check := ⟨rfl, by decide +kernel, by decide +kernel, by decide +kernel, by decide +kernel, by decide +kernel, (fun h => absurd h (by decide)), (fun h => absurd h (by decide)), (fun _ => rfl), (fun h => absurd h (by decide)), (fun _ => rfl)⟩
set_option maxRecDepth 100000 in
theorem mf_134 : mfP yLw_contents := ⟨rfl, by decide +kernel, by decide +kernel, by decide +kernel, by decide +kernel, by decide +kernel, (fun h => absurd h (by decide)), (fun h => absurd h (by decide)), (fun _ => rfl), (fun h => absurd h (by decide)), (fun _ => rfl)⟩
set_option maxRecDepth 100000 in
theorem mf_135 : mfP yLw_fill := ⟨rfl, by decide +kernel, by decide +kernel, by decide +kernel, by decide +kernel, by decide +kernel, (fun h => absurd h (by decide)), (fun h => absurd h (by decide)), (fun _ => rfl), (fun h => absurd h (by decide)), (fun _ => rfl)⟩
set_option maxRecDepth 100000 in
theorem mf_136 : mfP yLw_law := ⟨rfl, by decide +kernel, by decide +kernel, by decide +kernel, by decide +kernel, by decide +kernel, (fun h => absurd h (by decide)), (fun h => absurd h (by decide)), (fun h => absurd h (by decide)), (fun h => absurd h (by decide)), (fun h => absurd rfl h)⟩
set_option maxRecDepth 100000 in
theorem mf_137 : mfP yLw_make := ⟨rfl, by decide +kernel, by decide +kernel, by decide +kernel, by decide +kernel, by decide +kernel, (fun h => absurd h (by decide)), (fun h => absurd h (by decide)), (fun _ => rfl), (fun h => absurd h (by decide)), (fun _ => rfl)⟩
set_option maxRecDepth 100000 in
theorem mf_138 : mfP yLw_node := ⟨rfl, by decide +kernel, by decide +kernel, by decide +kernel, by decide +kernel, by decide +kernel, (fun h => absurd h (by decide)), (fun h => absurd h (by decide)), (fun _ => rfl), (fun h => absurd h (by decide)), (fun _ => rfl)⟩
set_option maxRecDepth 100000 in
theorem mf_139 : mfP yLw_part := ⟨rfl, by decide +kernel, by decide +kernel, by decide +kernel, by decide +kernel, by decide +kernel, (fun h => absurd h (by decide)), (fun h => absurd h (by decide)), (fun _ => rfl), (fun h => absurd h (by decide)), (fun _ => rfl)⟩
set_option maxRecDepth 100000 in
theorem mf_140 : mfP yLw_remove := ⟨rfl, by decide +kernel, by decide +kernel, by decide +kernel, by decide +kernel, by decide +kernel, (fun h => absurd h (by decide)), (fun h => absurd h (by decide)), (fun _ => rfl), (fun h => absurd h (by decide)), (fun _ => rfl)⟩
set_option maxRecDepth 100000 in
theorem mf_141 : mfP yLw_rename := ⟨rfl, by decide +kernel, by decide +kernel, by decide +kernel, by decide +kernel, by decide +kernel, (fun h => absurd h (by decide)), (fun h => absurd h (by decide)), (fun _ => rfl), (fun h => absurd h (by decide)), (fun _ => rfl)⟩
set_option maxRecDepth 100000 in
theorem mf_142 : mfP yLw_set := ⟨rfl, by decide +kernel, by decide +kernel, by decide +kernel, by decide +kernel, by decide +kernel, (fun h => absurd h (by decide)), (fun h => absurd h (by decide)), (fun _ => rfl), (fun h => absurd h (by decide)), (fun _ => rfl)⟩
set_option maxRecDepth 100000 in
theorem mf_143 : mfP yLw_size := ⟨rfl, by decide +kernel, by decide +kernel, by decide +kernel, by decide +kernel, by decide +kernel, (fun h => absurd h (by decide)), (fun h => absurd h (by decide)), (fun _ => rfl), (fun h => absurd h (by decide)), (fun _ => rfl)⟩
set_option maxRecDepth 100000 in
theorem mf_144 : mfP yLw_total := ⟨rfl, by decide +kernel, by decide +kernel, by decide +kernel, by decide +kernel, by decide +kernel, (fun h => absurd h (by decide)), (fun h => absurd h (by decide)), (fun _ => rfl), (fun h => absurd h (by decide)), (fun _ => rfl)⟩
set_option maxRecDepth 100000 in
theorem mf_145 : mfP yLw_write := ⟨rfl, by decide +kernel, by decide +kernel, by decide +kernel, by decide +kernel, by decide +kernel, (fun h => absurd h (by decide)), (fun h => absurd h (by decide)), (fun _ => rfl), (fun h => absurd h (by decide)), (fun _ => rfl)⟩
set_option maxRecDepth 100000 in
theorem mf_146 : mfP yAr_copyOf := ⟨rfl, by decide +kernel, by decide +kernel, by decide +kernel, by decide +kernel, by decide +kernel, (fun _ => rfl), (fun h => absurd h (by decide)), (fun _ => rfl), (fun h => absurd h (by decide)), (fun _ => rfl)⟩
theorem mfq_0 : ∀ y ∈ [yNd_init, yNd_begin, yNd_contentsLength, yRd_init, yRd_addText, yRd_faultOfContents, yRd_faultOfEntry, yRd_isMarked, yRd_takeEntry, yRd_takeKind, yRd_takeNumbers, yRd_takePath, yRd_takeTarget, yRd_takeTree, yRw_init, yRw_addLetters, yRw_at, yRw_copySlice, yRw_isNameOfAnyLength, yRw_isSlice, yRw_isTarget], mfP y := List.forall_mem_cons.mpr ⟨mf_0, List.forall_mem_cons.mpr ⟨mf_1, List.forall_mem_cons.mpr ⟨mf_2, List.forall_mem_cons.mpr ⟨mf_3, List.forall_mem_cons.mpr ⟨mf_4, List.forall_mem_cons.mpr ⟨mf_5, List.forall_mem_cons.mpr ⟨mf_6, List.forall_mem_cons.mpr ⟨mf_7, List.forall_mem_cons.mpr ⟨mf_8, List.forall_mem_cons.mpr ⟨mf_9, List.forall_mem_cons.mpr ⟨mf_10, List.forall_mem_cons.mpr ⟨mf_11, List.forall_mem_cons.mpr ⟨mf_12, List.forall_mem_cons.mpr ⟨mf_13, List.forall_mem_cons.mpr ⟨mf_14, List.forall_mem_cons.mpr ⟨mf_15, List.forall_mem_cons.mpr ⟨mf_16, List.forall_mem_cons.mpr ⟨mf_17, List.forall_mem_cons.mpr ⟨mf_18, List.forall_mem_cons.mpr ⟨mf_19, List.forall_mem_cons.mpr ⟨mf_20, fun _ h => absurd h List.not_mem_nil⟩⟩⟩⟩⟩⟩⟩⟩⟩⟩⟩⟩⟩⟩⟩⟩⟩⟩⟩⟩⟩
theorem mfq_1 : ∀ y ∈ [yRw_lastSlash, yRw_order, yRw_put, yRw_putAll, yRw_resize, yTp_init, yTp_blocksOf, yTp_hasCheck, yTp_hasMark, yTp_isBlockOfZeros, yTp_isZeros, yTp_octal, yTp_putCheck, yTp_putMark, yTp_putOctal, yTp_sum, yTp_wholeBlocks, yTr_init, yTr_add, yTr_childNamed, yTr_clear], mfP y := List.forall_mem_cons.mpr ⟨mf_21, List.forall_mem_cons.mpr ⟨mf_22, List.forall_mem_cons.mpr ⟨mf_23, List.forall_mem_cons.mpr ⟨mf_24, List.forall_mem_cons.mpr ⟨mf_25, List.forall_mem_cons.mpr ⟨mf_26, List.forall_mem_cons.mpr ⟨mf_27, List.forall_mem_cons.mpr ⟨mf_28, List.forall_mem_cons.mpr ⟨mf_29, List.forall_mem_cons.mpr ⟨mf_30, List.forall_mem_cons.mpr ⟨mf_31, List.forall_mem_cons.mpr ⟨mf_32, List.forall_mem_cons.mpr ⟨mf_33, List.forall_mem_cons.mpr ⟨mf_34, List.forall_mem_cons.mpr ⟨mf_35, List.forall_mem_cons.mpr ⟨mf_36, List.forall_mem_cons.mpr ⟨mf_37, List.forall_mem_cons.mpr ⟨mf_38, List.forall_mem_cons.mpr ⟨mf_39, List.forall_mem_cons.mpr ⟨mf_40, List.forall_mem_cons.mpr ⟨mf_41, fun _ h => absurd h List.not_mem_nil⟩⟩⟩⟩⟩⟩⟩⟩⟩⟩⟩⟩⟩⟩⟩⟩⟩⟩⟩⟩⟩
theorem mfq_2 : ∀ y ∈ [yTr_closeGaps, yTr_comesBehind, yTr_drop, yTr_follower, yTr_has, yTr_isGone, yTr_isOfKind, yTr_longestPath, yTr_lookUp, yTr_newNumber, yTr_nextChild, yTr_pathLength, yTr_spellPath, yTt_kindOf, yTt_typeOf, yWr_init, yWr_blocksFor, yWr_cutOfPath, yWr_isTellable, yWr_putContents, yWr_putEntries], mfP y := List.forall_mem_cons.mpr ⟨mf_42, List.forall_mem_cons.mpr ⟨mf_43, List.forall_mem_cons.mpr ⟨mf_44, List.forall_mem_cons.mpr ⟨mf_45, List.forall_mem_cons.mpr ⟨mf_46, List.forall_mem_cons.mpr ⟨mf_47, List.forall_mem_cons.mpr ⟨mf_48, List.forall_mem_cons.mpr ⟨mf_49, List.forall_mem_cons.mpr ⟨mf_50, List.forall_mem_cons.mpr ⟨mf_51, List.forall_mem_cons.mpr ⟨mf_52, List.forall_mem_cons.mpr ⟨mf_53, List.forall_mem_cons.mpr ⟨mf_54, List.forall_mem_cons.mpr ⟨mf_55, List.forall_mem_cons.mpr ⟨mf_56, List.forall_mem_cons.mpr ⟨mf_57, List.forall_mem_cons.mpr ⟨mf_58, List.forall_mem_cons.mpr ⟨mf_59, List.forall_mem_cons.mpr ⟨mf_60, List.forall_mem_cons.mpr ⟨mf_61, List.forall_mem_cons.mpr ⟨mf_62, fun _ h => absurd h List.not_mem_nil⟩⟩⟩⟩⟩⟩⟩⟩⟩⟩⟩⟩⟩⟩⟩⟩⟩⟩⟩⟩⟩
theorem mfq_3 : ∀ y ∈ [yWr_putHeader, yWr_putPath, yWr_putTree, yTY_init, yTY_alter, yTY_check, yTY_contents, yTY_fill, yTY_hand, yTY_known, yTY_make, yTY_node, yTY_part, yTY_place, yTY_read, yTY_refuseName, yTY_remove, yTY_rename, yTY_set, yTY_size, yTY_total], mfP y := List.forall_mem_cons.mpr ⟨mf_63, List.forall_mem_cons.mpr ⟨mf_64, List.forall_mem_cons.mpr ⟨mf_65, List.forall_mem_cons.mpr ⟨mf_66, List.forall_mem_cons.mpr ⟨mf_67, List.forall_mem_cons.mpr ⟨mf_68, List.forall_mem_cons.mpr ⟨mf_69, List.forall_mem_cons.mpr ⟨mf_70, List.forall_mem_cons.mpr ⟨mf_71, List.forall_mem_cons.mpr ⟨mf_72, List.forall_mem_cons.mpr ⟨mf_73, List.forall_mem_cons.mpr ⟨mf_74, List.forall_mem_cons.mpr ⟨mf_75, List.forall_mem_cons.mpr ⟨mf_76, List.forall_mem_cons.mpr ⟨mf_77, List.forall_mem_cons.mpr ⟨mf_78, List.forall_mem_cons.mpr ⟨mf_79, List.forall_mem_cons.mpr ⟨mf_80, List.forall_mem_cons.mpr ⟨mf_81, List.forall_mem_cons.mpr ⟨mf_82, List.forall_mem_cons.mpr ⟨mf_83, fun _ h => absurd h List.not_mem_nil⟩⟩⟩⟩⟩⟩⟩⟩⟩⟩⟩⟩⟩⟩⟩⟩⟩⟩⟩⟩⟩
theorem mfq_4 : ∀ y ∈ [yTY_write, yMd_init, yMd_add, yMd_alter, yMd_arrange, yMd_blocksOf, yMd_check, yMd_clear, yMd_compare, yMd_contents, yMd_copyIn, yMd_count, yMd_cutOf, yMd_entry, yMd_fails, yMd_fill, yMd_find, yMd_firstFault, yMd_hand, yMd_head, yMd_isCalled], mfP y := List.forall_mem_cons.mpr ⟨mf_84, List.forall_mem_cons.mpr ⟨mf_85, List.forall_mem_cons.mpr ⟨mf_86, List.forall_mem_cons.mpr ⟨mf_87, List.forall_mem_cons.mpr ⟨mf_88, List.forall_mem_cons.mpr ⟨mf_89, List.forall_mem_cons.mpr ⟨mf_90, List.forall_mem_cons.mpr ⟨mf_91, List.forall_mem_cons.mpr ⟨mf_92, List.forall_mem_cons.mpr ⟨mf_93, List.forall_mem_cons.mpr ⟨mf_94, List.forall_mem_cons.mpr ⟨mf_95, List.forall_mem_cons.mpr ⟨mf_96, List.forall_mem_cons.mpr ⟨mf_97, List.forall_mem_cons.mpr ⟨mf_98, List.forall_mem_cons.mpr ⟨mf_99, List.forall_mem_cons.mpr ⟨mf_100, List.forall_mem_cons.mpr ⟨mf_101, List.forall_mem_cons.mpr ⟨mf_102, List.forall_mem_cons.mpr ⟨mf_103, List.forall_mem_cons.mpr ⟨mf_104, fun _ h => absurd h List.not_mem_nil⟩⟩⟩⟩⟩⟩⟩⟩⟩⟩⟩⟩⟩⟩⟩⟩⟩⟩⟩⟩⟩
theorem mfq_5 : ∀ y ∈ [yMd_isLetter, yMd_isName, yMd_isNode, yMd_isZero, yMd_make, yMd_markOf, yMd_move, yMd_next, yMd_node, yMd_number, yMd_octal, yMd_part, yMd_place, yMd_read, yMd_remove, yMd_rename, yMd_set, yMd_size, yMd_spell, yMd_sum, yMd_tell], mfP y := List.forall_mem_cons.mpr ⟨mf_105, List.forall_mem_cons.mpr ⟨mf_106, List.forall_mem_cons.mpr ⟨mf_107, List.forall_mem_cons.mpr ⟨mf_108, List.forall_mem_cons.mpr ⟨mf_109, List.forall_mem_cons.mpr ⟨mf_110, List.forall_mem_cons.mpr ⟨mf_111, List.forall_mem_cons.mpr ⟨mf_112, List.forall_mem_cons.mpr ⟨mf_113, List.forall_mem_cons.mpr ⟨mf_114, List.forall_mem_cons.mpr ⟨mf_115, List.forall_mem_cons.mpr ⟨mf_116, List.forall_mem_cons.mpr ⟨mf_117, List.forall_mem_cons.mpr ⟨mf_118, List.forall_mem_cons.mpr ⟨mf_119, List.forall_mem_cons.mpr ⟨mf_120, List.forall_mem_cons.mpr ⟨mf_121, List.forall_mem_cons.mpr ⟨mf_122, List.forall_mem_cons.mpr ⟨mf_123, List.forall_mem_cons.mpr ⟨mf_124, List.forall_mem_cons.mpr ⟨mf_125, fun _ h => absurd h List.not_mem_nil⟩⟩⟩⟩⟩⟩⟩⟩⟩⟩⟩⟩⟩⟩⟩⟩⟩⟩⟩⟩⟩
theorem mfq_6 : ∀ y ∈ [yMd_textOf, yMd_thrown, yMd_total, yMd_walk, yMd_within, yMd_write, yLw_alter, yLw_check, yLw_contents, yLw_fill, yLw_law, yLw_make, yLw_node, yLw_part, yLw_remove, yLw_rename, yLw_set, yLw_size, yLw_total, yLw_write, yAr_copyOf], mfP y := List.forall_mem_cons.mpr ⟨mf_126, List.forall_mem_cons.mpr ⟨mf_127, List.forall_mem_cons.mpr ⟨mf_128, List.forall_mem_cons.mpr ⟨mf_129, List.forall_mem_cons.mpr ⟨mf_130, List.forall_mem_cons.mpr ⟨mf_131, List.forall_mem_cons.mpr ⟨mf_132, List.forall_mem_cons.mpr ⟨mf_133, List.forall_mem_cons.mpr ⟨mf_134, List.forall_mem_cons.mpr ⟨mf_135, List.forall_mem_cons.mpr ⟨mf_136, List.forall_mem_cons.mpr ⟨mf_137, List.forall_mem_cons.mpr ⟨mf_138, List.forall_mem_cons.mpr ⟨mf_139, List.forall_mem_cons.mpr ⟨mf_140, List.forall_mem_cons.mpr ⟨mf_141, List.forall_mem_cons.mpr ⟨mf_142, List.forall_mem_cons.mpr ⟨mf_143, List.forall_mem_cons.mpr ⟨mf_144, List.forall_mem_cons.mpr ⟨mf_145, List.forall_mem_cons.mpr ⟨mf_146, fun _ h => absurd h List.not_mem_nil⟩⟩⟩⟩⟩⟩⟩⟩⟩⟩⟩⟩⟩⟩⟩⟩⟩⟩⟩⟩⟩
theorem mf_all : ∀ y ∈ allY, mfP y := by
  show ∀ y ∈ [yNd_init, yNd_begin, yNd_contentsLength, yRd_init, yRd_addText, yRd_faultOfContents, yRd_faultOfEntry, yRd_isMarked, yRd_takeEntry, yRd_takeKind, yRd_takeNumbers, yRd_takePath, yRd_takeTarget, yRd_takeTree, yRw_init, yRw_addLetters, yRw_at, yRw_copySlice, yRw_isNameOfAnyLength, yRw_isSlice, yRw_isTarget] ++ ([yRw_lastSlash, yRw_order, yRw_put, yRw_putAll, yRw_resize, yTp_init, yTp_blocksOf, yTp_hasCheck, yTp_hasMark, yTp_isBlockOfZeros, yTp_isZeros, yTp_octal, yTp_putCheck, yTp_putMark, yTp_putOctal, yTp_sum, yTp_wholeBlocks, yTr_init, yTr_add, yTr_childNamed, yTr_clear] ++ ([yTr_closeGaps, yTr_comesBehind, yTr_drop, yTr_follower, yTr_has, yTr_isGone, yTr_isOfKind, yTr_longestPath, yTr_lookUp, yTr_newNumber, yTr_nextChild, yTr_pathLength, yTr_spellPath, yTt_kindOf, yTt_typeOf, yWr_init, yWr_blocksFor, yWr_cutOfPath, yWr_isTellable, yWr_putContents, yWr_putEntries] ++ ([yWr_putHeader, yWr_putPath, yWr_putTree, yTY_init, yTY_alter, yTY_check, yTY_contents, yTY_fill, yTY_hand, yTY_known, yTY_make, yTY_node, yTY_part, yTY_place, yTY_read, yTY_refuseName, yTY_remove, yTY_rename, yTY_set, yTY_size, yTY_total] ++ ([yTY_write, yMd_init, yMd_add, yMd_alter, yMd_arrange, yMd_blocksOf, yMd_check, yMd_clear, yMd_compare, yMd_contents, yMd_copyIn, yMd_count, yMd_cutOf, yMd_entry, yMd_fails, yMd_fill, yMd_find, yMd_firstFault, yMd_hand, yMd_head, yMd_isCalled] ++ ([yMd_isLetter, yMd_isName, yMd_isNode, yMd_isZero, yMd_make, yMd_markOf, yMd_move, yMd_next, yMd_node, yMd_number, yMd_octal, yMd_part, yMd_place, yMd_read, yMd_remove, yMd_rename, yMd_set, yMd_size, yMd_spell, yMd_sum, yMd_tell] ++ ([yMd_textOf, yMd_thrown, yMd_total, yMd_walk, yMd_within, yMd_write, yLw_alter, yLw_check, yLw_contents, yLw_fill, yLw_law, yLw_make, yLw_node, yLw_part, yLw_remove, yLw_rename, yLw_set, yLw_size, yLw_total, yLw_write, yAr_copyOf])))))), mfP y
  exact List.forall_mem_append.mpr ⟨mfq_0, List.forall_mem_append.mpr ⟨mfq_1, List.forall_mem_append.mpr ⟨mfq_2, List.forall_mem_append.mpr ⟨mfq_3, List.forall_mem_append.mpr ⟨mfq_4, List.forall_mem_append.mpr ⟨mfq_5, mfq_6⟩⟩⟩⟩⟩⟩
