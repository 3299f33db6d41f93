/-! printed by wip/whole/gen/facts.py: what the tables say of calls -/
def jm_cw (k : Nat) : Cond := match jm_hh k with
  | [] => .code (jm_y k) (jm_b k) (jm_ml k) (jm_rt k)
  | hh => .codeWith (jm_y k) (jm_b k) (jm_ml k) (jm_rt k) hh
set_option maxRecDepth 20000 in
theorem jm_cwk_0 : (List.range' 1 12).map jm_cw = [107, 450, 438, 521, 624, 638, 672, 690, 716, 723, 798, 813].filterMap (fun i => lw_tbl[i]?) := rfl
set_option maxRecDepth 20000 in
theorem jm_cwk_1 : (List.range' 13 12).map jm_cw = [820, 888, 918, 937, 960, 972, 442, 627, 524, 630, 556, 823].filterMap (fun i => lw_tbl[i]?) := rfl
set_option maxRecDepth 20000 in
theorem jm_cwk_2 : (List.range' 25 12).map jm_cw = [892, 694, 727, 612, 115, 553, 879, 135, 536, 739, 580, 572].filterMap (fun i => lw_tbl[i]?) := rfl
set_option maxRecDepth 20000 in
theorem jm_cwk_3 : (List.range' 37 12).map jm_cw = [181, 528, 604, 541, 545, 584, 568, 588, 576, 596, 600, 187].filterMap (fun i => lw_tbl[i]?) := rfl
set_option maxRecDepth 20000 in
theorem jm_cwk_4 : (List.range' 49 12).map jm_cw = [532, 608, 853, 560, 564, 549, 592, 218, 676, 775, 787, 241].filterMap (fun i => lw_tbl[i]?) := rfl
set_option maxRecDepth 20000 in
theorem jm_cwk_5 : (List.range' 61 12).map jm_cw = [731, 735, 743, 751, 767, 763, 759, 755, 771, 783, 778, 247].filterMap (fun i => lw_tbl[i]?) := rfl
set_option maxRecDepth 20000 in
theorem jm_cwk_6 : (List.range' 73 12).map jm_cw = [802, 806, 747, 865, 923, 273, 791, 642, 650, 646, 330, 827].filterMap (fun i => lw_tbl[i]?) := rfl
set_option maxRecDepth 20000 in
theorem jm_cwk_7 : (List.range' 85 12).map jm_cw = [911, 831, 836, 840, 844, 849, 860, 870, 874, 357, 616, 964].filterMap (fun i => lw_tbl[i]?) := rfl
set_option maxRecDepth 20000 in
theorem jm_cwk_8 : (List.range' 97 12).map jm_cw = [949, 980, 941, 945, 953, 374, 976, 984, 988, 995, 1151, 1155].filterMap (fun i => lw_tbl[i]?) := rfl
set_option maxRecDepth 20000 in
theorem jm_cwk_9 : (List.range' 109 12).map jm_cw = [1160, 1167, 1213, 1179, 1205, 1186, 1194, 1202, 1183, 1190, 1209, 1198].filterMap (fun i => lw_tbl[i]?) := rfl
set_option maxRecDepth 20000 in
theorem jm_cwk_10 : (List.range' 121 12).map jm_cw = [1175, 1229, 1225, 1221, 1171, 1164, 1217, 1233, 1241, 1237, 1249, 1245].filterMap (fun i => lw_tbl[i]?) := rfl
set_option maxRecDepth 20000 in
theorem jm_cwk_11 : (List.range' 133 12).map jm_cw = [1257, 1253, 1261, 1293, 1281, 1277, 1324, 1319, 1329, 1315, 1301, 1297].filterMap (fun i => lw_tbl[i]?) := rfl
set_option maxRecDepth 20000 in
theorem jm_cwk_12 : (List.range' 145 12).map jm_cw = [1289, 1306, 1311, 1285, 1333, 1273, 1269, 1265, 1341, 1337, 1345, 1373].filterMap (fun i => lw_tbl[i]?) := rfl
set_option maxRecDepth 20000 in
theorem jm_cwk_13 : (List.range' 157 12).map jm_cw = [1369, 1365, 1353, 1357, 1361, 1349, 1381, 1377, 1385, 1389, 1397, 1393].filterMap (fun i => lw_tbl[i]?) := rfl
set_option maxRecDepth 20000 in
theorem jm_cwk_14 : (List.range' 169 12).map jm_cw = [1405, 1401, 1409, 1414, 445, 517, 620, 633, 668, 685, 712, 719].filterMap (fun i => lw_tbl[i]?) := rfl
set_option maxRecDepth 20000 in
theorem jm_cwk_15 : (List.range' 181 9).map jm_cw = [794, 809, 816, 883, 914, 933, 956, 968, 212].filterMap (fun i => lw_tbl[i]?) := rfl
theorem jm_cwm {a n : Nat} {ps : List Nat} (h : (List.range' a n).map jm_cw = ps.filterMap (fun i => lw_tbl[i]?)) {k : Nat} (h1 : a ≤ k) (h2 : k < a + n) : jm_cw k ∈ jm_W := by
  have hm : jm_cw k ∈ (List.range' a n).map jm_cw := List.mem_map.mpr ⟨k, List.mem_range'_1.mpr ⟨h1, h2⟩, rfl⟩
  rw [h] at hm
  obtain ⟨i, -, hi⟩ := List.mem_filterMap.mp hm
  refine jm_W_of (List.mem_of_getElem? hi) ?_
  unfold jm_cw
  split <;> rfl
theorem jm_cw_ok (k : Nat) (h0 : 1 ≤ k) (h1 : k < 190) : jm_cw k ∈ jm_W := by
  by_cases q1 : k < 13
  · exact jm_cwm jm_cwk_0 (by omega) (by omega)
  by_cases q13 : k < 25
  · exact jm_cwm jm_cwk_1 (by omega) (by omega)
  by_cases q25 : k < 37
  · exact jm_cwm jm_cwk_2 (by omega) (by omega)
  by_cases q37 : k < 49
  · exact jm_cwm jm_cwk_3 (by omega) (by omega)
  by_cases q49 : k < 61
  · exact jm_cwm jm_cwk_4 (by omega) (by omega)
  by_cases q61 : k < 73
  · exact jm_cwm jm_cwk_5 (by omega) (by omega)
  by_cases q73 : k < 85
  · exact jm_cwm jm_cwk_6 (by omega) (by omega)
  by_cases q85 : k < 97
  · exact jm_cwm jm_cwk_7 (by omega) (by omega)
  by_cases q97 : k < 109
  · exact jm_cwm jm_cwk_8 (by omega) (by omega)
  by_cases q109 : k < 121
  · exact jm_cwm jm_cwk_9 (by omega) (by omega)
  by_cases q121 : k < 133
  · exact jm_cwm jm_cwk_10 (by omega) (by omega)
  by_cases q133 : k < 145
  · exact jm_cwm jm_cwk_11 (by omega) (by omega)
  by_cases q145 : k < 157
  · exact jm_cwm jm_cwk_12 (by omega) (by omega)
  by_cases q157 : k < 169
  · exact jm_cwm jm_cwk_13 (by omega) (by omega)
  by_cases q169 : k < 181
  · exact jm_cwm jm_cwk_14 (by omega) (by omega)
  exact jm_cwm jm_cwk_15 (by omega) (by omega)
def jm_sta_l : List Nat := [20, 21, 22, 23, 24, 71, 110, 113, 114, 173, 174, 175, 176, 177, 178, 179, 180, 181, 182, 183, 184, 185, 186, 187, 188, 189]
theorem jm_sta_0 : (decide (((jm_sta_l.drop 0).take 26).map (fun k => Cond.static (jm_y k)) = [626, 523, 629, 555, 822, 777, 1166, 1204, 1185, 444, 516, 619, 632, 667, 684, 711, 718, 793, 808, 815, 882, 913, 932, 955, 967, 211].filterMap (fun i => lw_tbl[i]?)) && (((jm_sta_l.drop 0).take 26).map (fun k => Cond.static (jm_y k))).all goodWord) = true := by decide +kernel
theorem jm_sta_eq : jm_sta_l = (jm_sta_l.drop 0).take 26 := by decide +kernel
theorem jm_sta_ok (k : Nat) (h : k ∈ jm_sta_l) : Cond.static (jm_y k) ∈ jm_W := by
  rw [jm_sta_eq] at h
  exact jm_mem _ jm_sta_0 (List.mem_map.mpr ⟨k, h, rfl⟩)
def jm_inm_l : List Nat := [1, 2, 3, 4, 5, 6, 7, 8, 9, 10, 11, 12, 13, 14, 15, 16, 17, 18, 19, 25, 26, 27, 28, 29, 30, 31, 32, 33, 34, 35, 36, 37, 38, 39, 40, 41, 42, 43, 44, 45, 46, 47, 48, 49, 50, 51, 52, 53, 54, 55, 56, 57, 58, 59, 60, 61, 62, 63, 64, 65, 66, 67, 68, 69, 70, 72, 73, 74, 75, 76, 77, 78, 79, 80, 81, 82, 83, 84, 85, 86, 87, 88, 89, 90, 91, 92, 93, 94, 95, 96, 97, 98, 99, 100, 101, 102, 103, 104, 105, 106, 107, 108, 109, 111, 112, 115, 116, 117, 118, 119, 120, 121, 122, 123, 124, 125, 126, 127, 128, 129, 130, 131, 132, 133, 134, 135, 136, 137, 138, 139, 140, 141, 142, 143, 144, 145, 146, 147, 148, 149, 150, 151, 152, 153, 154, 155, 156, 157, 158, 159, 160, 161, 162, 163, 164, 165, 166, 167, 168, 169, 170, 171, 172]
theorem jm_inm_0 : (decide (((jm_inm_l.drop 0).take 45).map (fun k => Cond.instanceMethod (jm_y k)) = [106, 448, 436, 519, 622, 636, 670, 688, 714, 721, 796, 811, 818, 886, 916, 935, 958, 970, 440, 891, 693, 726, 611, 114, 551, 877, 134, 534, 737, 578, 570, 180, 526, 603, 540, 544, 583, 567, 587, 575, 595, 599, 186, 530, 606].filterMap (fun i => lw_tbl[i]?)) && (((jm_inm_l.drop 0).take 45).map (fun k => Cond.instanceMethod (jm_y k))).all goodWord) = true := by decide +kernel
theorem jm_inm_1 : (decide (((jm_inm_l.drop 45).take 45).map (fun k => Cond.instanceMethod (jm_y k)) = [851, 558, 562, 547, 590, 217, 674, 773, 785, 240, 729, 734, 742, 750, 766, 762, 758, 754, 770, 782, 246, 800, 804, 745, 863, 921, 272, 789, 640, 649, 645, 329, 825, 909, 830, 835, 839, 843, 848, 859, 869, 873, 356, 614, 962].filterMap (fun i => lw_tbl[i]?)) && (((jm_inm_l.drop 45).take 45).map (fun k => Cond.instanceMethod (jm_y k))).all goodWord) = true := by decide +kernel
theorem jm_inm_2 : (decide (((jm_inm_l.drop 90).take 45).map (fun k => Cond.instanceMethod (jm_y k)) = [947, 978, 939, 944, 952, 373, 974, 982, 986, 994, 1149, 1153, 1158, 1212, 1178, 1193, 1201, 1182, 1189, 1208, 1197, 1174, 1228, 1224, 1220, 1170, 1162, 1215, 1231, 1240, 1235, 1248, 1243, 1256, 1251, 1259, 1292, 1280, 1276, 1323, 1318, 1328, 1314, 1300, 1296].filterMap (fun i => lw_tbl[i]?)) && (((jm_inm_l.drop 90).take 45).map (fun k => Cond.instanceMethod (jm_y k))).all goodWord) = true := by decide +kernel
theorem jm_inm_3 : (decide (((jm_inm_l.drop 135).take 28).map (fun k => Cond.instanceMethod (jm_y k)) = [1288, 1305, 1310, 1284, 1332, 1272, 1268, 1263, 1340, 1335, 1343, 1372, 1368, 1364, 1352, 1356, 1360, 1347, 1380, 1375, 1383, 1388, 1396, 1391, 1404, 1399, 1408, 1412].filterMap (fun i => lw_tbl[i]?)) && (((jm_inm_l.drop 135).take 28).map (fun k => Cond.instanceMethod (jm_y k))).all goodWord) = true := by decide +kernel
theorem jm_inm_eq : jm_inm_l = (jm_inm_l.drop 0).take 45 ++ (jm_inm_l.drop 45).take 45 ++ (jm_inm_l.drop 90).take 45 ++ (jm_inm_l.drop 135).take 28 := by decide +kernel
theorem jm_inm_ok (k : Nat) (h : k ∈ jm_inm_l) : Cond.instanceMethod (jm_y k) ∈ jm_W := by
  rw [jm_inm_eq] at h
  simp only [List.mem_append] at h
  rcases h with ((h | h) | h) | h
  · exact jm_mem _ jm_inm_0 (List.mem_map.mpr ⟨k, h, rfl⟩)
  · exact jm_mem _ jm_inm_1 (List.mem_map.mpr ⟨k, h, rfl⟩)
  · exact jm_mem _ jm_inm_2 (List.mem_map.mpr ⟨k, h, rfl⟩)
  · exact jm_mem _ jm_inm_3 (List.mem_map.mpr ⟨k, h, rfl⟩)
def jm_sel_l : List Nat := [2, 3, 4, 5, 6, 7, 8, 9, 10, 11, 12, 13, 14, 15, 16, 17, 18, 19, 25, 26, 27, 28, 30, 31, 33, 34, 35, 36, 38, 39, 40, 41, 42, 43, 44, 45, 46, 47, 49, 50, 51, 52, 53, 54, 55, 57, 58, 59, 61, 62, 63, 64, 65, 66, 67, 68, 69, 70, 73, 74, 75, 76, 77, 79, 80, 81, 82, 84, 85, 86, 87, 88, 89, 90, 91, 92, 93, 95, 96, 97, 98, 99, 100, 101, 103, 104, 105, 107, 108, 109, 111, 112, 115, 116, 117, 118, 119, 120, 121, 122, 123, 124, 125, 126, 127, 128, 129, 130, 131, 132, 133, 134, 135, 136, 137, 138, 139, 140, 141, 142, 143, 144, 145, 146, 147, 148, 149, 150, 151, 152, 153, 154, 155, 156, 157, 158, 159, 160, 161, 162, 163, 164, 165, 166, 167, 168, 169, 170, 171, 172]
theorem jm_sel_0 : (decide (((jm_sel_l.drop 0).take 45).map (fun k => Cond.selects (jm_on (jm_oc k)) (jm_y k) (jm_y k)) = [449, 437, 520, 623, 637, 671, 689, 715, 722, 797, 812, 819, 887, 917, 936, 959, 971, 441, 32, 13, 14, 10, 552, 878, 535, 738, 579, 571, 527, 9, 1, 2, 5, 3, 6, 4, 7, 8, 531, 607, 852, 559, 563, 548, 591].filterMap (fun i => lw_tbl[i]?)) && (((jm_sel_l.drop 0).take 45).map (fun k => Cond.selects (jm_on (jm_oc k)) (jm_y k) (jm_y k))).all goodWord) = true := by decide +kernel
theorem jm_sel_1 : (decide (((jm_sel_l.drop 45).take 45).map (fun k => Cond.selects (jm_on (jm_oc k)) (jm_y k) (jm_y k)) = [675, 774, 786, 730, 15, 16, 17, 21, 20, 19, 18, 22, 23, 801, 805, 746, 864, 922, 790, 641, 12, 11, 826, 910, 24, 25, 26, 27, 28, 29, 30, 31, 615, 963, 948, 979, 940, 33, 34, 975, 983, 987, 1150, 1154, 1159].filterMap (fun i => lw_tbl[i]?)) && (((jm_sel_l.drop 45).take 45).map (fun k => Cond.selects (jm_on (jm_oc k)) (jm_y k) (jm_y k))).all goodWord) = true := by decide +kernel
theorem jm_sel_2 : (decide (((jm_sel_l.drop 90).take 45).map (fun k => Cond.selects (jm_on (jm_oc k)) (jm_y k) (jm_y k)) = [44, 37, 40, 42, 38, 39, 43, 41, 36, 47, 46, 45, 35, 1163, 1216, 1232, 48, 1236, 49, 1244, 50, 1252, 1260, 57, 54, 53, 64, 63, 65, 62, 59, 58, 56, 60, 61, 55, 66, 52, 51, 1264, 67, 1336, 1344, 73, 72].filterMap (fun i => lw_tbl[i]?)) && (((jm_sel_l.drop 90).take 45).map (fun k => Cond.selects (jm_on (jm_oc k)) (jm_y k) (jm_y k))).all goodWord) = true := by decide +kernel
theorem jm_sel_3 : (decide (((jm_sel_l.drop 135).take 15).map (fun k => Cond.selects (jm_on (jm_oc k)) (jm_y k) (jm_y k)) = [71, 68, 69, 70, 1348, 74, 1376, 1384, 75, 76, 1392, 77, 1400, 78, 1413].filterMap (fun i => lw_tbl[i]?)) && (((jm_sel_l.drop 135).take 15).map (fun k => Cond.selects (jm_on (jm_oc k)) (jm_y k) (jm_y k))).all goodWord) = true := by decide +kernel
theorem jm_sel_eq : jm_sel_l = (jm_sel_l.drop 0).take 45 ++ (jm_sel_l.drop 45).take 45 ++ (jm_sel_l.drop 90).take 45 ++ (jm_sel_l.drop 135).take 15 := by decide +kernel
theorem jm_sel_ok (k : Nat) (h : k ∈ jm_sel_l) : Cond.selects (jm_on (jm_oc k)) (jm_y k) (jm_y k) ∈ jm_W := by
  rw [jm_sel_eq] at h
  simp only [List.mem_append] at h
  rcases h with ((h | h) | h) | h
  · exact jm_mem _ jm_sel_0 (List.mem_map.mpr ⟨k, h, rfl⟩)
  · exact jm_mem _ jm_sel_1 (List.mem_map.mpr ⟨k, h, rfl⟩)
  · exact jm_mem _ jm_sel_2 (List.mem_map.mpr ⟨k, h, rfl⟩)
  · exact jm_mem _ jm_sel_3 (List.mem_map.mpr ⟨k, h, rfl⟩)
def jm_kindb (k : Nat) : Bool := match jm_rc k with
  | none => k == 0 || jm_sta_l.contains k
  | some c => jm_inm_l.contains k && (c == jm_oc k && (jm_isI k || jm_sel_l.contains k))
theorem jm_kindk : (List.range jm_NM).all jm_kindb = true := by decide +kernel
theorem jm_kind0 {k : Nat} (hk : k < jm_NM) (h0 : 0 < k) (h : jm_rc k = none) : k ∈ jm_sta_l := by
  have h1 := List.all_eq_true.mp jm_kindk k (List.mem_range.mpr hk)
  unfold jm_kindb at h1
  rw [h] at h1
  simp only [Bool.or_eq_true, beq_iff_eq, List.contains_iff_mem] at h1
  rcases h1 with h1 | h1
  · omega
  · exact h1
theorem jm_kind1 {k c : Nat} (hk : k < jm_NM) (h : jm_rc k = some c) : k ∈ jm_inm_l ∧ c = jm_oc k ∧ (jm_isI k = false → k ∈ jm_sel_l) := by
  have h1 := List.all_eq_true.mp jm_kindk k (List.mem_range.mpr hk)
  unfold jm_kindb at h1
  rw [h] at h1
  simp only [Bool.and_eq_true, Bool.or_eq_true, beq_iff_eq, List.contains_iff_mem] at h1
  refine ⟨h1.1, h1.2.1, fun hi => ?_⟩
  rcases h1.2.2 with h2 | h2
  · rw [hi] at h2; cases h2
  · exact h2
theorem jm_rc_all : ∀ k, k < jm_NM → (jm_rc k).all (fun c => decide (c < jm_NC)) = true := by decide +kernel
theorem jm_rc_N : ∀ k, k < jm_NM → ∀ c, jm_rc k = some c → c < jm_NC := by
  intro k hk c hc
  have h : (jm_rc k).all (fun c => decide (c < jm_NC)) = true := jm_rc_all k hk
  rw [hc] at h
  exact of_decide_eq_true h
theorem jm_ocs : ∀ k, k < jm_NM → jm_oc k < 15 := by decide +kernel
theorem jm_desc : ∀ k, k < jm_NM → (parseMethodDescriptor (jm_ds k)).map (fun d => d.parameters.length) = some (jm_na k) := by decide +kernel
theorem jm_plain : ∀ k, k < jm_NM → plainFor (jm_y k) = true := by decide +kernel
theorem jm_noMH : ∀ c, c < 15 → jm_on c ≠ "java/lang/invoke/MethodHandle" ∧ jm_on c ≠ "java/lang/invoke/VarHandle" := by decide +kernel
def jm_nst : List (Nat × Nat × Nat) := [(0, 9, 29), (0, 18, 32), (0, 25, 37), (0, 46, 56), (0, 67, 83), (0, 74, 94), (3, 11, 48), (4, 28, 23), (6, 11, 72), (6, 38, 32), (6, 39, 78), (9, 11, 48), (9, 66, 21)]
def jm_pln : List (Nat × Nat × Nat) := [(0, 34, 189), (0, 53, 60), (0, 81, 102), (0, 95, 21), (0, 99, 38), (0, 107, 28), (0, 110, 20), (0, 113, 22), (0, 120, 80), (0, 132, 57), (0, 138, 26), (0, 144, 27), (0, 151, 73), (0, 154, 74), (0, 162, 24), (0, 169, 84), (0, 173, 31), (0, 177, 25), (0, 183, 85), (0, 187, 23), (0, 190, 77), (0, 202, 95), (0, 206, 99), (0, 211, 96), (0, 212, 97), (0, 215, 103), (0, 216, 98), (0, 222, 104), (0, 226, 105), (0, 238, 61), (2, 38, 189), (3, 18, 49), (3, 26, 33), (3, 31, 40), (3, 35, 39), (3, 39, 50), (3, 46, 53), (3, 50, 45), (3, 57, 41), (3, 60, 43), (3, 63, 52), (3, 66, 42), (3, 69, 46), (3, 72, 54), (3, 78, 44), (3, 85, 36), (3, 89, 55), (3, 95, 35), (3, 98, 47), (4, 24, 30), (6, 57, 62), (6, 68, 34), (6, 72, 63), (6, 80, 64), (6, 87, 79), (6, 91, 75), (6, 101, 68), (6, 104, 66), (6, 108, 65), (6, 114, 69), (6, 123, 67), (6, 133, 58), (6, 140, 71), (6, 144, 70), (6, 148, 59), (7, 23, 74), (7, 27, 76), (8, 18, 82), (8, 22, 81), (9, 22, 86), (9, 26, 87), (9, 30, 50), (9, 42, 49), (9, 49, 88), (9, 52, 53), (9, 56, 89), (9, 59, 90), (9, 62, 51), (9, 69, 52), (9, 72, 54), (9, 75, 91), (9, 83, 76), (9, 91, 92), (9, 101, 55), (9, 107, 93), (10, 23, 189), (10, 29, 100), (10, 33, 101), (10, 37, 97), (11, 15, 189), (11, 38, 58), (12, 135, 112), (12, 139, 113), (12, 143, 114), (12, 149, 115), (12, 152, 117), (12, 155, 116), (12, 158, 118), (12, 161, 120), (12, 165, 119), (12, 168, 122), (12, 171, 123), (12, 174, 110), (12, 177, 125), (12, 180, 121), (12, 183, 111), (12, 186, 124), (12, 189, 129), (12, 195, 131), (12, 199, 133), (12, 217, 137), (12, 229, 139), (12, 236, 138), (12, 238, 136), (12, 241, 140), (12, 244, 141), (12, 253, 144), (12, 258, 145), (12, 261, 143), (12, 264, 146), (12, 267, 147), (12, 270, 142), (12, 273, 148), (12, 276, 150), (12, 279, 149), (12, 282, 151), (12, 286, 153), (12, 290, 156), (12, 293, 157), (12, 297, 160), (12, 300, 161), (12, 304, 158), (12, 307, 159), (12, 310, 163), (12, 314, 166), (12, 318, 167), (12, 321, 169), (12, 325, 171), (13, 7, 2), (13, 15, 4), (13, 19, 5), (13, 23, 6), (13, 29, 7), (13, 33, 8), (13, 38, 9), (13, 42, 10), (13, 45, 11), (13, 49, 12), (13, 53, 13), (13, 56, 14), (13, 61, 15), (13, 65, 16), (13, 69, 17), (13, 72, 18), (13, 75, 1), (13, 78, 106), (13, 81, 173), (13, 86, 108), (13, 87, 107), (13, 91, 3), (13, 94, 109), (13, 95, 174), (13, 98, 126), (13, 99, 175), (13, 102, 128), (13, 103, 176), (13, 106, 130), (13, 107, 177), (13, 110, 132), (13, 111, 178), (13, 113, 134), (13, 114, 179), (13, 117, 135), (13, 118, 180), (13, 120, 152), (13, 121, 181), (13, 124, 154), (13, 125, 182), (13, 127, 155), (13, 128, 183), (13, 130, 127), (13, 131, 184), (13, 133, 162), (13, 134, 185), (13, 137, 164), (13, 138, 186), (13, 140, 165), (13, 141, 187), (13, 143, 168), (13, 144, 188), (13, 146, 170), (13, 147, 19), (13, 150, 172)]
theorem jm_mts_or : ∀ r ∈ jm_mts, 900 ≤ r.2.2 ∨ r ∈ jm_pln ∨ r ∈ jm_nst := by decide +kernel
theorem jm_mts_N : ∀ r ∈ jm_mts, 900 ≤ r.2.2 ∨ (r.2.2 < jm_NM ∧ 0 < r.2.2) := by decide +kernel
theorem jm_lk0 : (decide (((jm_pln.drop 0).take 45).map (fun r => Cond.methodLink (jm_on r.1) r.2.1 (jm_y r.2.2)) = [210, 239, 372, 522, 525, 609, 625, 628, 639, 673, 691, 724, 799, 803, 821, 824, 876, 889, 908, 919, 920, 613, 938, 961, 965, 973, 977, 981, 985, 728, 537, 529, 533, 538, 601, 605, 561, 573, 542, 565, 557, 581, 593, 546, 585].filterMap (fun i => lw_tbl[i]?)) && (((jm_pln.drop 0).take 45).map (fun r => Cond.methodLink (jm_on r.1) r.2.1 (jm_y r.2.2))).all goodWord) = true := by decide +kernel
theorem jm_lk1 : (decide (((jm_pln.drop 45).take 45).map (fun r => Cond.methodLink (jm_on r.1) r.2.1 (jm_y r.2.2)) = [569, 589, 577, 597, 550, 732, 736, 740, 748, 788, 744, 752, 760, 764, 768, 756, 772, 776, 780, 784, 866, 924, 643, 647, 828, 833, 875, 832, 837, 845, 841, 846, 850, 855, 856, 857, 862, 867, 861, 871, 617, 942, 950, 946, 376].filterMap (fun i => lw_tbl[i]?)) && (((jm_pln.drop 45).take 45).map (fun r => Cond.methodLink (jm_on r.1) r.2.1 (jm_y r.2.2))).all goodWord) = true := by decide +kernel
theorem jm_lk2 : (decide (((jm_pln.drop 90).take 45).map (fun r => Cond.methodLink (jm_on r.1) r.2.1 (jm_y r.2.2)) = [990, 1176, 1203, 1184, 1191, 1180, 1199, 1187, 1195, 1206, 1226, 1222, 1165, 1168, 1172, 1210, 1218, 1238, 1246, 1254, 1278, 1321, 1274, 1290, 1316, 1326, 1294, 1286, 1298, 1303, 1308, 1312, 1282, 1270, 1330, 1266, 1338, 1370, 1366, 1354, 1358, 1362, 1350, 1378, 1386].filterMap (fun i => lw_tbl[i]?)) && (((jm_pln.drop 90).take 45).map (fun r => Cond.methodLink (jm_on r.1) r.2.1 (jm_y r.2.2))).all goodWord) = true := by decide +kernel
theorem jm_lk3 : (decide (((jm_pln.drop 135).take 45).map (fun r => Cond.methodLink (jm_on r.1) r.2.1 (jm_y r.2.2)) = [1394, 1402, 1406, 447, 518, 621, 635, 669, 687, 713, 720, 795, 810, 817, 885, 915, 934, 957, 969, 105, 993, 443, 1152, 1148, 435, 1157, 515, 1161, 618, 1230, 631, 1234, 666, 1242, 683, 1250, 710, 1258, 717, 1262, 792, 1334, 807, 1342, 814].filterMap (fun i => lw_tbl[i]?)) && (((jm_pln.drop 135).take 45).map (fun r => Cond.methodLink (jm_on r.1) r.2.1 (jm_y r.2.2))).all goodWord) = true := by decide +kernel
theorem jm_lk4 : (decide (((jm_pln.drop 180).take 13).map (fun r => Cond.methodLink (jm_on r.1) r.2.1 (jm_y r.2.2)) = [1214, 881, 1346, 912, 1374, 931, 1382, 954, 1390, 966, 1398, 439, 1411].filterMap (fun i => lw_tbl[i]?)) && (((jm_pln.drop 180).take 13).map (fun r => Cond.methodLink (jm_on r.1) r.2.1 (jm_y r.2.2))).all goodWord) = true := by decide +kernel
theorem jm_pln_eq : jm_pln = (jm_pln.drop 0).take 45 ++ (jm_pln.drop 45).take 45 ++ (jm_pln.drop 90).take 45 ++ (jm_pln.drop 135).take 45 ++ (jm_pln.drop 180).take 13 := by decide +kernel
theorem jm_pln_ok : ∀ r ∈ jm_pln, Cond.methodLink (jm_on r.1) r.2.1 (jm_y r.2.2) ∈ jm_W := by
  intro r hr
  rw [jm_pln_eq] at hr
  simp only [List.mem_append] at hr
  rcases hr with (((hr | hr) | hr) | hr) | hr
  · exact jm_mem _ jm_lk0 (List.mem_map.mpr ⟨r, hr, rfl⟩)
  · exact jm_mem _ jm_lk1 (List.mem_map.mpr ⟨r, hr, rfl⟩)
  · exact jm_mem _ jm_lk2 (List.mem_map.mpr ⟨r, hr, rfl⟩)
  · exact jm_mem _ jm_lk3 (List.mem_map.mpr ⟨r, hr, rfl⟩)
  · exact jm_mem _ jm_lk4 (List.mem_map.mpr ⟨r, hr, rfl⟩)
theorem jm_mt_ok {oc x k : Nat} (h : jm_mt oc x = some k) (hk : k < 900) : k < jm_NM ∧ 0 < k ∧ (Cond.methodLink (jm_on oc) x (jm_y k) ∈ jm_W ∨ (oc, x, k) ∈ jm_nst) := by
  have hm : (oc, x, k) ∈ jm_mts := jm_find2 h
  have h1 := jm_mts_N _ hm
  have h2 := jm_mts_or _ hm
  dsimp only at h1 h2
  rcases h1 with h1 | h1
  · omega
  · refine ⟨h1.1, h1.2, ?_⟩
    rcases h2 with h2 | h2 | h2
    · omega
    · exact Or.inl (jm_pln_ok _ h2)
    · exact Or.inr h2
theorem jm_good (k : Nat) (h0 : 0 < k) (h1 : k < jm_NM) : GoodIn jm_W (jm_cw k :: jm_W) := by
  intro w hw
  have hm : w ∈ jm_W := by
    rcases List.mem_cons.mp hw with rfl | h
    · exact jm_cw_ok k h0 h1
    · exact h
  exact ⟨hm, good_of_word (jm_W_good hm)⟩
theorem jm_nstk : jm_nst.map (fun r => Cond.methodLinkNest (jm_on r.1) r.2.1 (jm_y r.2.2) "CaptureBench") = [113, 133, 179, 216, 328, 355, 185, 554, 245, 269, 271, 333, 854].filterMap (fun i => lw_tbl[i]?) := by decide +kernel
theorem jm_aok : ([31, 32, 35, 38] : List Nat).map (fun t => Cond.arrayOver (.object (jm_cn (t - 30)))) = [325, 266, 214, 268].filterMap (fun i => lw_tbl[i]?) := by decide +kernel
