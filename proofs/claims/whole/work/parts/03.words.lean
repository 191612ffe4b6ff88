def in32 (x : Int) : Prop := -2147483648 ≤ x ∧ x < 2147483648
def in64 (x : Int) : Prop := -9223372036854775808 ≤ x ∧ x < 9223372036854775808
abbrev zcl : List vw_C := [(RX0, TX0, 5), (RX1, TX1, 9), (RX2, TX2, 6), (RX3, TX3, 9), (RX4, TX4, 4), (RX5, TX5, 3), (RX6, TX6, 17), (RX7, TX7, 4), (RX8, TX8, 4), (RX9, TX9, 2), (RX10, TX10, 10), (RX11, TX11, 47)]
def lw_good : List Cond := lw_tbl.filter goodWord
theorem lw_good_in {w : Cond} (h : w ∈ lw_tbl) (hg : goodWord w = true) : w ∈ lw_good := List.mem_filter.mpr ⟨h, hg⟩
theorem lw_good_tbl {w : Cond} (h : w ∈ lw_good) : w ∈ lw_tbl := (List.mem_filter.mp h).1
theorem lw_good_goodIn : GoodIn lw_good lw_good := fun w h => ⟨h, good_of_word (List.mem_filter.mp h).2⟩
-- ===== the tables' words of the classes and of the pool numbers =====
def zTT (c : Nat) : u_T := ([TX0, TX1, TX2, TX3, TX4, TX5, TX6, TX7, TX8, TX9, TX10, TX11] : List u_T)[c]?.getD TX0
def zTy (c : Nat) : Nat → FieldType := ([tyX0, tyX1, tyX2, tyX3, tyX4, tyX5, tyX6, tyX7, tyX8, tyX9, tyX10, tyX11] : List (Nat → FieldType))[c]?.getD tyX0
theorem twelve {P : Nat → Prop} (h0 : P 0) (h1 : P 1) (h2 : P 2) (h3 : P 3) (h4 : P 4) (h5 : P 5) (h6 : P 6) (h7 : P 7) (h8 : P 8) (h9 : P 9) (h10 : P 10) (h11 : P 11) : ∀ c, c < 12 → P c := by
  intro c hc
  match c, hc with
  | 0, _ => exact h0
  | 1, _ => exact h1
  | 2, _ => exact h2
  | 3, _ => exact h3
  | 4, _ => exact h4
  | 5, _ => exact h5
  | 6, _ => exact h6
  | 7, _ => exact h7
  | 8, _ => exact h8
  | 9, _ => exact h9
  | 10, _ => exact h10
  | 11, _ => exact h11
  | n + 12, h => exact absurd h (by omega)
theorem zcl_at : ∀ c, c < 12 → zcl[c]? = some (zClsAt c, zTT c, zNf c) := twelve rfl rfl rfl rfl rfl rfl rfl rfl rfl rfl rfl rfl
theorem zty_ok : ∀ c, c < 12 → ∀ k, k < zNf c → parseFieldDescriptor (zTT c k).2.2.1 = some (zTy c k) := twelve tyX0_ok tyX1_ok tyX2_ok tyX3_ok tyX4_ok tyX5_ok tyX6_ok tyX7_ok tyX8_ok tyX9_ok tyX10_ok tyX11_ok
theorem znm_ok : ∀ c, c < 12 → ∀ a, a < zNf c → ∀ b, b < zNf c → a ≠ b → (zTT c a).2.1 ≠ (zTT c b).2.1 := twelve nmX0 nmX1 nmX2 nmX3 nmX4 nmX5 nmX6 nmX7 nmX8 nmX9 nmX10 nmX11
theorem zlay_ok : ∀ c, c < 12 → ∀ w ∈ u_ws (zClsAt c) (zTT c) (zNf c), w ∈ lw_tbl ∧ goodWord w = true := by decide +kernel
theorem zlay_in {c : Nat} (hc : c < 12) : ∀ w ∈ u_ws (zClsAt c) (zTT c) (zNf c), w ∈ lw_good := fun w h => lw_good_in (zlay_ok c hc w h).1 (zlay_ok c hc w h).2
def isRefTy (t : FieldType) : Bool := match t with
  | .object _ => true
  | .array _ => true
  | _ => false
def kindOK (c k : Nat) : Bool := match zKkAt c k with
  | 0 => decide (zTy c k = .int)
  | 1 => decide (zTy c k = .boolean)
  | 2 => decide (zTy c k = .long)
  | _ => isRefTy (zTy c k)
theorem zkind_ok : ∀ c, c < 12 → ∀ k, k < zNf c → kindOK c k = true ∧ zKkAt c k < 4 ∧ (zFinAt c k = 1 ↔ (zTT c k).2.2.2 = true) ∧ (zTT c k).1 = zClsAt c := by decide +kernel
theorem find3 {α : Type} {l : List (Nat × Nat × α)} {o i : Nat} {r : α} (h : (l.find? (fun q => q.1 == o && q.2.1 == i)).map (fun q => q.2.2) = some r) : (o, i, r) ∈ l := by
  cases hf : l.find? (fun q => q.1 == o && q.2.1 == i) with
  | none => rw [hf] at h; cases h
  | some q =>
    rw [hf] at h
    have h1 := List.mem_of_find?_eq_some hf
    have h2 := List.find?_some hf
    simp only [Bool.and_eq_true, beq_iff_eq] at h2
    have h3 : q.2.2 = r := Option.some.inj h
    have : q = (o, i, r) := by rw [← h2.1, ← h2.2, ← h3]
    rw [← this]; exact h1
/-- a word of the tables, by its place -/
def wAt (w : Cond) (n : Nat) : Bool := decide (lw_tbl[n]? = some w)
theorem wAt_in {w : Cond} {n : Nat} (h : wAt w n = true) : w ∈ lw_tbl := List.mem_of_getElem? (of_decide_eq_true h)
theorem zip_mem {α β : Type} {P : α → β → Bool} : ∀ (l : List α) (k : List β), l.length = k.length → (l.zip k).all (fun q => P q.1 q.2) = true → ∀ q ∈ l, ∃ b, P q b = true
  | [], _, _, _, q, hq => absurd hq List.not_mem_nil
  | a :: l, b :: k, h1, h2, q, hq => by
    simp only [List.zip_cons_cons, List.all_cons, Bool.and_eq_true] at h2
    rcases List.mem_cons.mp hq with rfl | hq
    · exact ⟨b, h2.1⟩
    · exact zip_mem l k (by simpa using h1) h2.2 q hq
def zFp : List Nat := [412, 410, 120, 414, 124, 415, 416, 183, 185, 187, 188, 189, 172, 176, 180, 182, 119, 123, 127, 130, 132, 116, 232, 235, 242, 244, 249, 251, 238, 240, 247, 390, 392, 393, 394, 217, 220, 223, 303, 219, 222, 216, 305, 306, 307, 308, 309, 310, 311, 312, 313, 314, 316, 318, 233, 117, 301, 236, 121, 128, 245, 181, 184, 186, 178, 126, 174, 133, 321, 323, 325, 327, 280, 285, 155, 159, 284, 282, 173, 177, 371, 373, 374, 369, 302, 158, 156, 428, 429, 431, 432, 433, 434, 435, 436, 437, 243, 157, 160, 248, 283, 246, 281, 234, 118, 122, 125, 129, 131, 134, 239, 237, 241, 175, 179, 320, 322, 324, 317, 319, 326, 304, 370, 372, 250, 391, 252, 218, 221, 224, 411, 413, 430, 315, 1032, 1033, 1040, 1041, 1044, 1048, 1049, 1050, 1051, 1052, 1056, 1057, 1058, 1063, 1064, 1070, 1071, 1072, 1073, 1036, 1037, 1038, 1035, 1039, 1042, 1043, 1046, 1045, 1053, 1054, 1047, 1055, 1059, 1060, 1061, 1062, 1069, 1065, 1066, 1068, 1067, 1074, 1076, 1075, 1077, 1034, 0, 0]
def fOK (q : Nat × Nat × Nat × Nat) (n : Nat) : Bool := !(decide (q.2.2.1 < 12)) || (decide (q.2.2.2 < zNf q.2.2.1) && wAt (Cond.fieldLink (zClsAt q.1) q.2.1 (zClsAt q.2.2.1) (zTT q.2.2.1 q.2.2.2).2.1 (zTT q.2.2.1 q.2.2.2).2.2.1) n)
theorem zF_all : (zF.zip zFp).all (fun q => fOK q.1 q.2) = true := by decide +kernel
theorem zF_len : zF.length = zFp.length := by decide +kernel
theorem zF_ok : ∀ q ∈ zF, q.2.2.1 < 12 → q.2.2.2 < zNf q.2.2.1 ∧ Cond.fieldLink (zClsAt q.1) q.2.1 (zClsAt q.2.2.1) (zTT q.2.2.1 q.2.2.2).2.1 (zTT q.2.2.1 q.2.2.2).2.2.1 ∈ lw_tbl := by
  intro q hq hc
  obtain ⟨n, h⟩ := zip_mem zF zFp zF_len zF_all q hq
  unfold fOK at h
  rw [decide_eq_true hc, Bool.not_true, Bool.false_or, Bool.and_eq_true] at h
  exact ⟨of_decide_eq_true h.1, wAt_in h.2⟩
theorem good_fl (o : String) (i : Nat) (r n d : String) : goodWord (Cond.fieldLink o i r n d) = true := rfl
theorem fF_ok {o i c k : Nat} (h : fF o i = some (c, k)) (hc : c < 12) : k < zNf c ∧ Cond.fieldLink (zClsAt o) i (zClsAt c) (zTT c k).2.1 (zTT c k).2.2.1 ∈ lw_good := by
  have := zF_ok _ (find3 h) hc
  exact ⟨this.1, lw_good_in this.2 (good_fl _ _ _ _ _)⟩
def zCp : List (List Nat) := [[110, 111, 79], [149, 150, 80], [166, 167, 81], [210, 211, 82], [278, 167, 81], [104, 105, 78], [272, 273, 83], [295, 296, 84], [363, 364, 85], [384, 385, 86], [404, 405, 87], [96, 97, 77], [1026, 1027, 88]]
def cOK (q : Nat × Nat × Nat) (n : List Nat) : Bool := decide (q.2.2 < 12) && (wAt (Cond.classLink (zClsAt q.1) q.2.1 (zClsAt q.2.2)) (n[0]?.getD 0) && (wAt (Cond.instantiable (zClsAt q.2.2) (zNf q.2.2)) (n[1]?.getD 0) && wAt (Cond.initialized (zClsAt q.2.2)) (n[2]?.getD 0)))
theorem zC_all : (zC.zip zCp).all (fun q => cOK q.1 q.2) = true := by decide +kernel
theorem zC_ok : ∀ q ∈ zC, q.2.2 < 12 ∧ Cond.classLink (zClsAt q.1) q.2.1 (zClsAt q.2.2) ∈ lw_tbl ∧ Cond.instantiable (zClsAt q.2.2) (zNf q.2.2) ∈ lw_tbl ∧ Cond.initialized (zClsAt q.2.2) ∈ lw_tbl := by
  intro q hq
  obtain ⟨n, h⟩ := zip_mem zC zCp (by decide +kernel) zC_all q hq
  unfold cOK at h
  simp only [Bool.and_eq_true] at h
  exact ⟨of_decide_eq_true h.1, wAt_in h.2.1, wAt_in h.2.2.1, wAt_in h.2.2.2⟩
theorem good_cl (o : String) (i : Nat) (r : String) : goodWord (Cond.classLink o i r) = true := rfl
theorem good_in (o : String) (n : Nat) : goodWord (Cond.instantiable o n) = true := rfl
theorem good_ini (o : String) : goodWord (Cond.initialized o) = true := rfl
theorem fC_ok {o i c : Nat} (h : f3 zC o i = some c) : c < 12 ∧ Cond.classLink (zClsAt o) i (zClsAt c) ∈ lw_good ∧ Cond.instantiable (zClsAt c) (zNf c) ∈ lw_good ∧ Cond.initialized (zClsAt c) ∈ lw_good := by
  have := zC_ok _ (find3 h)
  exact ⟨this.1, lw_good_in this.2.1 (good_cl _ _ _), lw_good_in this.2.2.1 (good_in _ _), lw_good_in this.2.2.2 (good_ini _)⟩
theorem arr_ok : Cond.arrayClass .int ∈ lw_tbl ∧ Cond.arrayClass .boolean ∈ lw_tbl := ⟨wAt_in (n := 148) (by decide +kernel), wAt_in (n := 209) (by decide +kernel)⟩
theorem arrI_ok : Cond.arrayClass .int ∈ lw_good := lw_good_in arr_ok.1 rfl
theorem arrZ_ok : Cond.arrayClass .boolean ∈ lw_good := lw_good_in arr_ok.2 rfl
def zKp : List Nat := [771, 776, 1359]
def zLp : List Nat := [819, 797, 1339, 1335, 1360]
def kOK (q : Nat × Nat × Int) (n : Nat) : Bool := wAt (Cond.constant (zClsAt q.1) q.2.1 (Int32.ofInt q.2.2)) n && (decide (-2147483648 ≤ q.2.2) && decide (q.2.2 < 2147483648))
def klOK (q : Nat × Nat × Int) (n : Nat) : Bool := wAt (Cond.constantLong (zClsAt q.1) q.2.1 (Int64.ofInt q.2.2)) n && (decide (-9223372036854775808 ≤ q.2.2) && decide (q.2.2 < 9223372036854775808))
theorem zK_ok : ∀ q ∈ zK, Cond.constant (zClsAt q.1) q.2.1 (Int32.ofInt q.2.2) ∈ lw_tbl ∧ in32 q.2.2 := by
  intro q hq
  obtain ⟨n, h⟩ := zip_mem (P := kOK) zK zKp (by decide +kernel) (by decide +kernel) q hq
  unfold kOK at h
  rw [Bool.and_eq_true, Bool.and_eq_true] at h
  exact ⟨wAt_in h.1, of_decide_eq_true h.2.1, of_decide_eq_true h.2.2⟩
theorem zL_ok : ∀ q ∈ zL, Cond.constantLong (zClsAt q.1) q.2.1 (Int64.ofInt q.2.2) ∈ lw_tbl ∧ in64 q.2.2 := by
  intro q hq
  obtain ⟨n, h⟩ := zip_mem (P := klOK) zL zLp (by decide +kernel) (by decide +kernel) q hq
  unfold klOK at h
  rw [Bool.and_eq_true, Bool.and_eq_true] at h
  exact ⟨wAt_in h.1, of_decide_eq_true h.2.1, of_decide_eq_true h.2.2⟩
theorem good_k (o : String) (i : Nat) (r : Int32) : goodWord (Cond.constant o i r) = true := rfl
theorem good_kl (o : String) (i : Nat) (r : Int64) : goodWord (Cond.constantLong o i r) = true := rfl
-- methods: kind 0 static, 1 virtual, 2 and 3 a constructor (3: a nest mate's)
def zMp : List (List Nat) := [[409], [973, 87, 970, 972, 28], [981, 87, 978, 980, 29], [171], [652], [725, 81, 723, 724], [115], [1004], [109], [114, 79, 112, 113], [153, 80, 151, 152], [170, 81, 168, 169], [214, 82, 212, 213], [1003, 79, 1000, 1001, 1002], [1005], [1009, 80, 1006, 1007, 1008], [651, 81, 1011, 649, 650], [1015, 82, 1012, 1013, 1014], [389], [942, 86, 939, 941, 26], [946, 86, 943, 945, 27], [949], [834, 84, 947, 832, 833], [784, 84, 948, 782, 783], [215], [1016], [1017], [300], [718, 84, 715, 717, 14], [731, 84, 729, 730], [734, 84, 732, 733], [738, 84, 735, 737, 15], [722, 81, 719, 720, 721], [728, 84, 726, 727], [739], [742, 84, 740, 741], [745, 84, 743, 744], [746], [770, 84, 767, 769, 17], [775, 84, 772, 773, 774], [784, 84, 781, 782, 783], [750, 84, 785, 748, 749], [277], [170, 81, 279, 169], [474], [480, 81, 477, 478, 479], [484, 83, 481, 483, 0], [550, 83, 547, 549, 4], [488, 83, 485, 487, 1], [492, 83, 489, 491, 2], [498, 83, 495, 497, 3], [554, 83, 551, 553, 5], [622, 83, 619, 621, 7], [647, 81, 644, 645, 646], [626, 83, 623, 625, 8], [634, 81, 631, 632, 633], [630, 83, 627, 629, 9], [638, 83, 635, 637, 10], [559, 83, 556, 558, 6], [643, 83, 641, 642], [502, 90, 499, 500, 501], [512, 90, 509, 510, 511], [563, 90, 560, 561, 562], [368], [823, 85, 820, 822, 20], [775, 84, 824, 773, 774], [829, 85, 826, 828, 21], [839], [784, 84, 830, 782, 783], [834, 84, 831, 832, 833], [838, 84, 835, 836, 837], [154], [1010], [101], [108, 78, 106, 107], [276, 83, 274, 275], [299, 84, 297, 298], [367, 85, 365, 366], [388, 86, 386, 387], [408, 87, 406, 407], [465, 77, 463, 464], [473, 83, 470, 471, 472], [651, 81, 648, 649, 650], [663, 79, 660, 661, 662], [671, 77, 668, 670, 11], [678, 77, 676, 677], [698, 77, 695, 697, 12], [710, 77, 707, 709, 13], [762, 77, 759, 761, 16], [796, 77, 794, 795], [802, 77, 800, 801], [810, 77, 807, 809, 18], [814, 77, 811, 813, 19], [818, 85, 815, 816, 817], [775, 84, 851, 773, 774], [714, 84, 711, 712, 713], [766, 84, 763, 764, 765], [780, 84, 777, 778, 779], [863, 84, 860, 861, 862], [875, 77, 872, 874, 22], [891, 77, 888, 890, 23], [903, 77, 900, 902, 24], [919, 82, 916, 917, 918], [922, 77, 920, 921], [934, 77, 931, 933, 25], [969, 87, 966, 967, 968], [986], [999, 78, 996, 997, 998], [926, 82, 923, 924, 925], [750, 84, 747, 748, 749], [840], [895, 84, 892, 893, 894], [938, 86, 935, 936, 937], [1031], [1179, 88, 1177, 1178], [1191, 88, 1188, 1190, 31], [502, 90, 1201, 500, 501], [512, 90, 1202, 510, 511], [1206, 88, 1203, 1205, 34], [1228, 88, 1225, 1227, 39], [1232, 88, 1229, 1231, 40], [1220, 88, 1217, 1219, 37], [1237, 88, 1234, 1236, 41], [1210, 88, 1207, 1209, 35], [1224, 88, 1221, 1223, 38], [1200, 88, 1197, 1199, 33], [1196, 88, 1193, 1195, 32], [1216, 88, 1213, 1215, 36], [1187, 88, 1184, 1186, 30], [1283, 88, 1280, 1282, 44], [1251, 88, 1248, 1250, 42], [1275, 88, 1272, 1274, 43], [1307, 88, 1304, 1306, 49], [1299, 88, 1296, 1298, 47], [1303, 88, 1300, 1302, 48], [1323, 88, 1320, 1322, 53], [1326, 88, 1324, 1325], [1319, 88, 1316, 1318, 52], [1315, 88, 1312, 1314, 51], [1295, 88, 1292, 1294, 46], [1311, 88, 1308, 1310, 50], [1291, 88, 1288, 1290, 45], [1338, 88, 1336, 1337], [1342, 88, 1340, 1341], [1372, 88, 1369, 1371, 59], [1368, 88, 1365, 1367, 58], [1376, 88, 1373, 1375, 60], [1364, 88, 1361, 1363, 57], [1358, 88, 1355, 1357, 56], [1354, 88, 1351, 1353, 55], [1350, 88, 1347, 1349, 54], [1388, 88, 1385, 1387, 61], [1392, 88, 1389, 1391, 62], [1412, 88, 1409, 1411, 63], [1416, 88, 1413, 1415, 64], [1428, 88, 1425, 1427, 65], [1444, 88, 1441, 1443, 66], [1452, 88, 1449, 1451, 67], [1472, 88, 1469, 1471, 68], [1499, 88, 1496, 1498, 70], [1495, 88, 1493, 1494], [1503, 88, 1500, 1502, 71], [1492, 88, 1489, 1491, 69], [1511, 88, 1508, 1510, 73], [1507, 88, 1504, 1506, 72], [1519, 88, 1516, 1518, 75], [1515, 88, 1512, 1514, 74], [506, 90, 503, 504, 505], [516, 90, 513, 514, 515], [519, 91, 517, 518], [502, 90, 568, 500, 501], [567, 90, 564, 565, 566], [571, 91, 569, 570], [527, 92, 525, 526], [522, 90, 520, 521], [578], [574, 91, 572, 573], [575], [581, 91, 579, 580], [100, 77, 98, 99], [1030, 88, 1028, 1029], [462, 77, 459, 460, 461], [1176, 88, 1173, 1174, 1175], [469, 77, 466, 467, 468], [1183, 88, 1180, 1181, 1182], [659, 77, 656, 657, 658], [1243, 88, 1240, 1241, 1242], [667, 77, 664, 665, 666], [1247, 88, 1244, 1245, 1246], [675, 77, 672, 673, 674], [1255, 88, 1252, 1253, 1254], [682, 77, 679, 680, 681], [1259, 88, 1256, 1257, 1258], [686, 77, 683, 684, 685], [1263, 88, 1260, 1261, 1262], [690, 77, 687, 688, 689], [1267, 88, 1264, 1265, 1266], [694, 77, 691, 692, 693], [1271, 88, 1268, 1269, 1270], [702, 77, 699, 700, 701], [1279, 88, 1276, 1277, 1278], [706, 77, 703, 704, 705], [1287, 88, 1284, 1285, 1286], [754, 77, 751, 752, 753], [1330, 88, 1327, 1328, 1329], [758, 77, 755, 756, 757], [1346, 88, 1343, 1344, 1345], [789, 77, 786, 787, 788], [1380, 88, 1377, 1378, 1379], [793, 77, 790, 791, 792], [1334, 88, 1331, 1332, 1333], [806, 77, 803, 804, 805], [1384, 88, 1381, 1382, 1383], [846, 77, 843, 844, 845], [1396, 88, 1393, 1394, 1395], [850, 77, 847, 848, 849], [1400, 88, 1397, 1398, 1399], [855, 77, 852, 853, 854], [1404, 88, 1401, 1402, 1403], [859, 77, 856, 857, 858], [1408, 88, 1405, 1406, 1407], [867, 77, 864, 865, 866], [1420, 88, 1417, 1418, 1419], [871, 77, 868, 869, 870], [1424, 88, 1421, 1422, 1423], [879, 77, 876, 877, 878], [1432, 88, 1429, 1430, 1431], [883, 77, 880, 881, 882], [1436, 88, 1433, 1434, 1435], [887, 77, 884, 885, 886], [1440, 88, 1437, 1438, 1439], [899, 77, 896, 897, 898], [1448, 88, 1445, 1446, 1447], [907, 77, 904, 905, 906], [1456, 88, 1453, 1454, 1455], [911, 77, 908, 909, 910], [1460, 88, 1457, 1458, 1459], [915, 77, 912, 913, 914], [1464, 88, 1461, 1462, 1463], [930, 77, 927, 928, 929], [1468, 88, 1465, 1466, 1467], [953, 77, 950, 951, 952], [1476, 88, 1473, 1474, 1475], [957, 77, 954, 955, 956], [1480, 88, 1477, 1478, 1479], [961, 77, 958, 959, 960], [1484, 88, 1481, 1482, 1483], [965, 77, 962, 963, 964], [1488, 88, 1485, 1486, 1487], [985, 77, 982, 983, 984], [1523, 88, 1520, 1521, 1522], [990, 77, 987, 988, 989], [1527, 88, 1524, 1525, 1526], [995, 77, 992, 993, 994], [1531, 88, 1528, 1529, 1530], [1021, 77, 1018, 1019, 1020], [1535, 88, 1532, 1533, 1534], [1025, 77, 1022, 1023, 1024], [1539, 88, 1536, 1537, 1538]]
def mBase (q : Nat × Nat × Nat × Nat × Int) (n : List Nat) : Bool :=
  decide (q.2.2.1 < 222 - 1) && ((wAt (Cond.initialized (zNamAt q.2.2.1).cls) (n[1]?.getD 0) && (decide ((zNamAt q.2.2.1).cls = zClsAt (zOwAt q.2.2.1)) &&
  (decide ((parseMethodDescriptor (zNamAt q.2.2.1).desc).map (fun d => d.parameters.length) = some (if q.2.2.2.2 = 0 then q.2.2.2.1 else q.2.2.2.1 - 1)) && decide (q.2.2.2.2 = 0 ∨ 1 ≤ q.2.2.2.1)))))
def mKind (q : Nat × Nat × Nat × Nat × Int) (n : List Nat) : Bool :=
  if q.2.2.2.2 = 0 then wAt (Cond.methodLink (zClsAt q.1) q.2.1 (zNamAt q.2.2.1)) (n[2]?.getD 0) && wAt (Cond.static (zNamAt q.2.2.1)) (n[3]?.getD 0)
  else if q.2.2.2.2 = 1 then wAt (Cond.methodLink (zClsAt q.1) q.2.1 (zNamAt q.2.2.1)) (n[2]?.getD 0) && (wAt (Cond.instanceMethod (zNamAt q.2.2.1)) (n[3]?.getD 0) && wAt (Cond.selects (zNamAt q.2.2.1).cls (zNamAt q.2.2.1) (zNamAt q.2.2.1)) (n[4]?.getD 0))
  else if q.2.2.2.2 = 2 then wAt (Cond.methodLink (zClsAt q.1) q.2.1 (zNamAt q.2.2.1)) (n[2]?.getD 0) && (wAt (Cond.instanceMethod (zNamAt q.2.2.1)) (n[3]?.getD 0) && (decide ((zNamAt q.2.2.1).name = "<init>") && decide (zRetAt q.2.2.1 = none)))
  else if q.2.2.2.2 = 3 then wAt (Cond.methodLinkNest (zClsAt q.1) q.2.1 (zNamAt q.2.2.1) "FortyGates") (n[2]?.getD 0) && (wAt (Cond.instanceMethod (zNamAt q.2.2.1)) (n[3]?.getD 0) && (decide ((zNamAt q.2.2.1).name = "<init>") && decide (zRetAt q.2.2.1 = none)))
  else false
def mOK (q : Nat × Nat × Nat × Nat × Int) (n : List Nat) : Bool :=
  if q.2.2.2.2 = 9 then wAt (Cond.methodLink (zClsAt q.1) q.2.1 Lib.objectInit) (n[0]?.getD 0)
  else if q.2.2.2.2 = 10 then wAt (Cond.methodLink (zClsAt q.1) q.2.1 Lib.Math.max.name) (n[0]?.getD 0)
  else if q.2.2.2.2 = 11 then wAt (Cond.methodLink (zClsAt q.1) q.2.1 Lib.Math.min.name) (n[0]?.getD 0)
  else if q.2.2.2.2 = 12 then wAt (Cond.methodLink (zClsAt q.1) q.2.1 Lib.MathLoose.max_long.x) (n[0]?.getD 0)
  else if q.2.2.2.2 = 8 then wAt (Cond.methodLink (zClsAt q.1) q.2.1 arraycopyName) (n[0]?.getD 0)
  else mBase q n && mKind q n
theorem zM_all0 : (((zM.zip zMp).drop 0).take 40).all (fun q => mOK q.1 q.2) = true := by decide +kernel
theorem zM_all1 : (((zM.zip zMp).drop 40).take 40).all (fun q => mOK q.1 q.2) = true := by decide +kernel
theorem zM_all2 : (((zM.zip zMp).drop 80).take 40).all (fun q => mOK q.1 q.2) = true := by decide +kernel
theorem zM_all3 : (((zM.zip zMp).drop 120).take 40).all (fun q => mOK q.1 q.2) = true := by decide +kernel
theorem zM_all4 : (((zM.zip zMp).drop 160).take 40).all (fun q => mOK q.1 q.2) = true := by decide +kernel
theorem zM_all5 : (((zM.zip zMp).drop 200).take 40).all (fun q => mOK q.1 q.2) = true := by decide +kernel
theorem zM_all6 : (((zM.zip zMp).drop 240).take 40).all (fun q => mOK q.1 q.2) = true := by decide +kernel
theorem all_cut {α : Type} (f : α → Bool) (l : List α) (n k : Nat) (h1 : ((l.drop n).take k).all f = true) (h2 : (l.drop (n + k)).all f = true) : (l.drop n).all f = true := by
  rw [← List.take_append_drop k (l.drop n), List.all_append, h1, List.drop_drop, h2]; rfl
theorem zM_all : (zM.zip zMp).all (fun q => mOK q.1 q.2) = true := by
  have e : ((zM.zip zMp).drop 280).all (fun q => mOK q.1 q.2) = true := by decide +kernel
  have e := all_cut _ _ 240 40 zM_all6 e
  have e := all_cut _ _ 200 40 zM_all5 e
  have e := all_cut _ _ 160 40 zM_all4 e
  have e := all_cut _ _ 120 40 zM_all3 e
  have e := all_cut _ _ 80 40 zM_all2 e
  have e := all_cut _ _ 40 40 zM_all1 e
  have e := all_cut _ _ 0 40 zM_all0 e
  exact e
theorem zM_ok : ∀ q ∈ zM, ∃ n, mOK q n = true := zip_mem zM zMp (by decide +kernel) zM_all
theorem zw_0 : Cond.code (zNamAt 0) (zCodAt 0) (zMaxAt 0) (zRetAt 0) ∈ lw_tbl := List.mem_of_getElem? (i := 408) (by decide +kernel)
theorem zw_1 : Cond.code (zNamAt 1) (zCodAt 1) (zMaxAt 1) (zRetAt 1) ∈ lw_tbl := List.mem_of_getElem? (i := 969) (by decide +kernel)
theorem zw_2 : Cond.code (zNamAt 2) (zCodAt 2) (zMaxAt 2) (zRetAt 2) ∈ lw_tbl := List.mem_of_getElem? (i := 973) (by decide +kernel)
theorem zw_3 : Cond.code (zNamAt 3) (zCodAt 3) (zMaxAt 3) (zRetAt 3) ∈ lw_tbl := List.mem_of_getElem? (i := 981) (by decide +kernel)
theorem zw_4 : Cond.code (zNamAt 4) (zCodAt 4) (zMaxAt 4) (zRetAt 4) ∈ lw_tbl := List.mem_of_getElem? (i := 170) (by decide +kernel)
theorem zw_5 : Cond.code (zNamAt 5) (zCodAt 5) (zMaxAt 5) (zRetAt 5) ∈ lw_tbl := List.mem_of_getElem? (i := 480) (by decide +kernel)
theorem zw_6 : Cond.code (zNamAt 6) (zCodAt 6) (zMaxAt 6) (zRetAt 6) ∈ lw_tbl := List.mem_of_getElem? (i := 651) (by decide +kernel)
theorem zw_7 : Cond.code (zNamAt 7) (zCodAt 7) (zMaxAt 7) (zRetAt 7) ∈ lw_tbl := List.mem_of_getElem? (i := 634) (by decide +kernel)
theorem zw_8 : Cond.code (zNamAt 8) (zCodAt 8) (zMaxAt 8) (zRetAt 8) ∈ lw_tbl := List.mem_of_getElem? (i := 647) (by decide +kernel)
theorem zw_9 : Cond.code (zNamAt 9) (zCodAt 9) (zMaxAt 9) (zRetAt 9) ∈ lw_tbl := List.mem_of_getElem? (i := 722) (by decide +kernel)
theorem zw_10 : Cond.code (zNamAt 10) (zCodAt 10) (zMaxAt 10) (zRetAt 10) ∈ lw_tbl := List.mem_of_getElem? (i := 725) (by decide +kernel)
theorem zw_11 : Cond.code (zNamAt 11) (zCodAt 11) (zMaxAt 11) (zRetAt 11) ∈ lw_tbl := List.mem_of_getElem? (i := 114) (by decide +kernel)
theorem zw_12 : Cond.code (zNamAt 12) (zCodAt 12) (zMaxAt 12) (zRetAt 12) ∈ lw_tbl := List.mem_of_getElem? (i := 663) (by decide +kernel)
theorem zw_13 : Cond.code (zNamAt 13) (zCodAt 13) (zMaxAt 13) (zRetAt 13) ∈ lw_tbl := List.mem_of_getElem? (i := 1003) (by decide +kernel)
theorem zw_14 : Cond.code (zNamAt 14) (zCodAt 14) (zMaxAt 14) (zRetAt 14) ∈ lw_tbl := List.mem_of_getElem? (i := 108) (by decide +kernel)
theorem zw_15 : Cond.code (zNamAt 15) (zCodAt 15) (zMaxAt 15) (zRetAt 15) ∈ lw_tbl := List.mem_of_getElem? (i := 999) (by decide +kernel)
theorem zw_16 : Cond.code (zNamAt 16) (zCodAt 16) (zMaxAt 16) (zRetAt 16) ∈ lw_tbl := List.mem_of_getElem? (i := 388) (by decide +kernel)
theorem zw_17 : Cond.code (zNamAt 17) (zCodAt 17) (zMaxAt 17) (zRetAt 17) ∈ lw_tbl := List.mem_of_getElem? (i := 938) (by decide +kernel)
theorem zw_18 : Cond.code (zNamAt 18) (zCodAt 18) (zMaxAt 18) (zRetAt 18) ∈ lw_tbl := List.mem_of_getElem? (i := 942) (by decide +kernel)
theorem zw_19 : Cond.code (zNamAt 19) (zCodAt 19) (zMaxAt 19) (zRetAt 19) ∈ lw_tbl := List.mem_of_getElem? (i := 946) (by decide +kernel)
theorem zw_20 : Cond.code (zNamAt 20) (zCodAt 20) (zMaxAt 20) (zRetAt 20) ∈ lw_tbl := List.mem_of_getElem? (i := 214) (by decide +kernel)
theorem zw_21 : Cond.code (zNamAt 21) (zCodAt 21) (zMaxAt 21) (zRetAt 21) ∈ lw_tbl := List.mem_of_getElem? (i := 926) (by decide +kernel)
theorem zw_22 : Cond.code (zNamAt 22) (zCodAt 22) (zMaxAt 22) (zRetAt 22) ∈ lw_tbl := List.mem_of_getElem? (i := 919) (by decide +kernel)
theorem zw_23 : Cond.code (zNamAt 23) (zCodAt 23) (zMaxAt 23) (zRetAt 23) ∈ lw_tbl := List.mem_of_getElem? (i := 1015) (by decide +kernel)
theorem zw_24 : Cond.code (zNamAt 24) (zCodAt 24) (zMaxAt 24) (zRetAt 24) ∈ lw_tbl := List.mem_of_getElem? (i := 299) (by decide +kernel)
theorem zw_25 : Cond.code (zNamAt 25) (zCodAt 25) (zMaxAt 25) (zRetAt 25) ∈ lw_tbl := List.mem_of_getElem? (i := 714) (by decide +kernel)
theorem zw_26 : Cond.code (zNamAt 26) (zCodAt 26) (zMaxAt 26) (zRetAt 26) ∈ lw_tbl := List.mem_of_getElem? (i := 718) (by decide +kernel)
theorem zw_27 : Cond.code (zNamAt 27) (zCodAt 27) (zMaxAt 27) (zRetAt 27) ∈ lw_tbl := List.mem_of_getElem? (i := 728) (by decide +kernel)
theorem zw_28 : Cond.code (zNamAt 28) (zCodAt 28) (zMaxAt 28) (zRetAt 28) ∈ lw_tbl := List.mem_of_getElem? (i := 731) (by decide +kernel)
theorem zw_29 : Cond.code (zNamAt 29) (zCodAt 29) (zMaxAt 29) (zRetAt 29) ∈ lw_tbl := List.mem_of_getElem? (i := 734) (by decide +kernel)
theorem zw_30 : Cond.code (zNamAt 30) (zCodAt 30) (zMaxAt 30) (zRetAt 30) ∈ lw_tbl := List.mem_of_getElem? (i := 738) (by decide +kernel)
theorem zw_31 : Cond.code (zNamAt 31) (zCodAt 31) (zMaxAt 31) (zRetAt 31) ∈ lw_tbl := List.mem_of_getElem? (i := 742) (by decide +kernel)
theorem zw_32 : Cond.code (zNamAt 32) (zCodAt 32) (zMaxAt 32) (zRetAt 32) ∈ lw_tbl := List.mem_of_getElem? (i := 745) (by decide +kernel)
theorem zw_33 : Cond.code (zNamAt 33) (zCodAt 33) (zMaxAt 33) (zRetAt 33) ∈ lw_tbl := List.mem_of_getElem? (i := 834) (by decide +kernel)
theorem zw_34 : Cond.code (zNamAt 34) (zCodAt 34) (zMaxAt 34) (zRetAt 34) ∈ lw_tbl := List.mem_of_getElem? (i := 838) (by decide +kernel)
theorem zw_35 : Cond.code (zNamAt 35) (zCodAt 35) (zMaxAt 35) (zRetAt 35) ∈ lw_tbl := List.mem_of_getElem? (i := 784) (by decide +kernel)
theorem zw_36 : Cond.code (zNamAt 36) (zCodAt 36) (zMaxAt 36) (zRetAt 36) ∈ lw_tbl := List.mem_of_getElem? (i := 895) (by decide +kernel)
theorem zw_37 : Cond.code (zNamAt 37) (zCodAt 37) (zMaxAt 37) (zRetAt 37) ∈ lw_tbl := List.mem_of_getElem? (i := 775) (by decide +kernel)
theorem zw_38 : Cond.code (zNamAt 38) (zCodAt 38) (zMaxAt 38) (zRetAt 38) ∈ lw_tbl := List.mem_of_getElem? (i := 766) (by decide +kernel)
theorem zw_39 : Cond.code (zNamAt 39) (zCodAt 39) (zMaxAt 39) (zRetAt 39) ∈ lw_tbl := List.mem_of_getElem? (i := 770) (by decide +kernel)
theorem zw_40 : Cond.code (zNamAt 40) (zCodAt 40) (zMaxAt 40) (zRetAt 40) ∈ lw_tbl := List.mem_of_getElem? (i := 780) (by decide +kernel)
theorem zw_41 : Cond.code (zNamAt 41) (zCodAt 41) (zMaxAt 41) (zRetAt 41) ∈ lw_tbl := List.mem_of_getElem? (i := 750) (by decide +kernel)
theorem zw_42 : Cond.code (zNamAt 42) (zCodAt 42) (zMaxAt 42) (zRetAt 42) ∈ lw_tbl := List.mem_of_getElem? (i := 863) (by decide +kernel)
theorem zw_43 : Cond.code (zNamAt 43) (zCodAt 43) (zMaxAt 43) (zRetAt 43) ∈ lw_tbl := List.mem_of_getElem? (i := 276) (by decide +kernel)
theorem zw_44 : Cond.code (zNamAt 44) (zCodAt 44) (zMaxAt 44) (zRetAt 44) ∈ lw_tbl := List.mem_of_getElem? (i := 473) (by decide +kernel)
theorem zw_45 : Cond.code (zNamAt 45) (zCodAt 45) (zMaxAt 45) (zRetAt 45) ∈ lw_tbl := List.mem_of_getElem? (i := 484) (by decide +kernel)
theorem zw_46 : Cond.code (zNamAt 46) (zCodAt 46) (zMaxAt 46) (zRetAt 46) ∈ lw_tbl := List.mem_of_getElem? (i := 492) (by decide +kernel)
theorem zw_47 : Cond.code (zNamAt 47) (zCodAt 47) (zMaxAt 47) (zRetAt 47) ∈ lw_tbl := List.mem_of_getElem? (i := 622) (by decide +kernel)
theorem zw_48 : Cond.code (zNamAt 48) (zCodAt 48) (zMaxAt 48) (zRetAt 48) ∈ lw_tbl := List.mem_of_getElem? (i := 626) (by decide +kernel)
theorem zw_49 : Cond.code (zNamAt 49) (zCodAt 49) (zMaxAt 49) (zRetAt 49) ∈ lw_tbl := List.mem_of_getElem? (i := 630) (by decide +kernel)
theorem zw_50 : Cond.code (zNamAt 50) (zCodAt 50) (zMaxAt 50) (zRetAt 50) ∈ lw_tbl := List.mem_of_getElem? (i := 638) (by decide +kernel)
theorem zw_51 : Cond.code (zNamAt 51) (zCodAt 51) (zMaxAt 51) (zRetAt 51) ∈ lw_tbl := List.mem_of_getElem? (i := 643) (by decide +kernel)
theorem zw_52 : Cond.code (zNamAt 52) (zCodAt 52) (zMaxAt 52) (zRetAt 52) ∈ lw_tbl := List.mem_of_getElem? (i := 554) (by decide +kernel)
theorem zw_53 : Cond.code (zNamAt 53) (zCodAt 53) (zMaxAt 53) (zRetAt 53) ∈ lw_tbl := List.mem_of_getElem? (i := 488) (by decide +kernel)
theorem zw_54 : Cond.code (zNamAt 54) (zCodAt 54) (zMaxAt 54) (zRetAt 54) ∈ lw_tbl := List.mem_of_getElem? (i := 550) (by decide +kernel)
theorem zw_55 : Cond.code (zNamAt 55) (zCodAt 55) (zMaxAt 55) (zRetAt 55) ∈ lw_tbl := List.mem_of_getElem? (i := 498) (by decide +kernel)
theorem zw_56 : Cond.code (zNamAt 56) (zCodAt 56) (zMaxAt 56) (zRetAt 56) ∈ lw_tbl := List.mem_of_getElem? (i := 559) (by decide +kernel)
theorem zw_57 : Cond.code (zNamAt 57) (zCodAt 57) (zMaxAt 57) (zRetAt 57) ∈ lw_tbl := List.mem_of_getElem? (i := 367) (by decide +kernel)
theorem zw_58 : Cond.code (zNamAt 58) (zCodAt 58) (zMaxAt 58) (zRetAt 58) ∈ lw_tbl := List.mem_of_getElem? (i := 818) (by decide +kernel)
theorem zw_59 : Cond.code (zNamAt 59) (zCodAt 59) (zMaxAt 59) (zRetAt 59) ∈ lw_tbl := List.mem_of_getElem? (i := 823) (by decide +kernel)
theorem zw_60 : Cond.code (zNamAt 60) (zCodAt 60) (zMaxAt 60) (zRetAt 60) ∈ lw_tbl := List.mem_of_getElem? (i := 829) (by decide +kernel)
theorem zw_61 : Cond.code (zNamAt 61) (zCodAt 61) (zMaxAt 61) (zRetAt 61) ∈ lw_tbl := List.mem_of_getElem? (i := 153) (by decide +kernel)
theorem zw_62 : Cond.code (zNamAt 62) (zCodAt 62) (zMaxAt 62) (zRetAt 62) ∈ lw_tbl := List.mem_of_getElem? (i := 1009) (by decide +kernel)
theorem zw_63 : Cond.code (zNamAt 63) (zCodAt 63) (zMaxAt 63) (zRetAt 63) ∈ lw_tbl := List.mem_of_getElem? (i := 100) (by decide +kernel)
theorem zw_64 : Cond.code (zNamAt 64) (zCodAt 64) (zMaxAt 64) (zRetAt 64) ∈ lw_tbl := List.mem_of_getElem? (i := 462) (by decide +kernel)
theorem zw_65 : Cond.code (zNamAt 65) (zCodAt 65) (zMaxAt 65) (zRetAt 65) ∈ lw_tbl := List.mem_of_getElem? (i := 469) (by decide +kernel)
theorem zw_66 : Cond.code (zNamAt 66) (zCodAt 66) (zMaxAt 66) (zRetAt 66) ∈ lw_tbl := List.mem_of_getElem? (i := 659) (by decide +kernel)
theorem zw_67 : Cond.code (zNamAt 67) (zCodAt 67) (zMaxAt 67) (zRetAt 67) ∈ lw_tbl := List.mem_of_getElem? (i := 667) (by decide +kernel)
theorem zw_68 : Cond.code (zNamAt 68) (zCodAt 68) (zMaxAt 68) (zRetAt 68) ∈ lw_tbl := List.mem_of_getElem? (i := 675) (by decide +kernel)
theorem zw_69 : Cond.code (zNamAt 69) (zCodAt 69) (zMaxAt 69) (zRetAt 69) ∈ lw_tbl := List.mem_of_getElem? (i := 682) (by decide +kernel)
theorem zw_70 : Cond.code (zNamAt 70) (zCodAt 70) (zMaxAt 70) (zRetAt 70) ∈ lw_tbl := List.mem_of_getElem? (i := 686) (by decide +kernel)
theorem zw_71 : Cond.code (zNamAt 71) (zCodAt 71) (zMaxAt 71) (zRetAt 71) ∈ lw_tbl := List.mem_of_getElem? (i := 690) (by decide +kernel)
theorem zw_72 : Cond.code (zNamAt 72) (zCodAt 72) (zMaxAt 72) (zRetAt 72) ∈ lw_tbl := List.mem_of_getElem? (i := 694) (by decide +kernel)
theorem zw_73 : Cond.code (zNamAt 73) (zCodAt 73) (zMaxAt 73) (zRetAt 73) ∈ lw_tbl := List.mem_of_getElem? (i := 702) (by decide +kernel)
theorem zw_74 : Cond.code (zNamAt 74) (zCodAt 74) (zMaxAt 74) (zRetAt 74) ∈ lw_tbl := List.mem_of_getElem? (i := 706) (by decide +kernel)
theorem zw_75 : Cond.code (zNamAt 75) (zCodAt 75) (zMaxAt 75) (zRetAt 75) ∈ lw_tbl := List.mem_of_getElem? (i := 754) (by decide +kernel)
theorem zw_76 : Cond.code (zNamAt 76) (zCodAt 76) (zMaxAt 76) (zRetAt 76) ∈ lw_tbl := List.mem_of_getElem? (i := 758) (by decide +kernel)
theorem zw_77 : Cond.code (zNamAt 77) (zCodAt 77) (zMaxAt 77) (zRetAt 77) ∈ lw_tbl := List.mem_of_getElem? (i := 789) (by decide +kernel)
theorem zw_78 : Cond.code (zNamAt 78) (zCodAt 78) (zMaxAt 78) (zRetAt 78) ∈ lw_tbl := List.mem_of_getElem? (i := 793) (by decide +kernel)
theorem zw_79 : Cond.code (zNamAt 79) (zCodAt 79) (zMaxAt 79) (zRetAt 79) ∈ lw_tbl := List.mem_of_getElem? (i := 806) (by decide +kernel)
theorem zw_80 : Cond.code (zNamAt 80) (zCodAt 80) (zMaxAt 80) (zRetAt 80) ∈ lw_tbl := List.mem_of_getElem? (i := 846) (by decide +kernel)
theorem zw_81 : Cond.code (zNamAt 81) (zCodAt 81) (zMaxAt 81) (zRetAt 81) ∈ lw_tbl := List.mem_of_getElem? (i := 850) (by decide +kernel)
theorem zw_82 : Cond.code (zNamAt 82) (zCodAt 82) (zMaxAt 82) (zRetAt 82) ∈ lw_tbl := List.mem_of_getElem? (i := 855) (by decide +kernel)
theorem zw_83 : Cond.code (zNamAt 83) (zCodAt 83) (zMaxAt 83) (zRetAt 83) ∈ lw_tbl := List.mem_of_getElem? (i := 859) (by decide +kernel)
theorem zw_84 : Cond.code (zNamAt 84) (zCodAt 84) (zMaxAt 84) (zRetAt 84) ∈ lw_tbl := List.mem_of_getElem? (i := 867) (by decide +kernel)
theorem zw_85 : Cond.code (zNamAt 85) (zCodAt 85) (zMaxAt 85) (zRetAt 85) ∈ lw_tbl := List.mem_of_getElem? (i := 871) (by decide +kernel)
theorem zw_86 : Cond.code (zNamAt 86) (zCodAt 86) (zMaxAt 86) (zRetAt 86) ∈ lw_tbl := List.mem_of_getElem? (i := 879) (by decide +kernel)
theorem zw_87 : Cond.code (zNamAt 87) (zCodAt 87) (zMaxAt 87) (zRetAt 87) ∈ lw_tbl := List.mem_of_getElem? (i := 883) (by decide +kernel)
theorem zw_88 : Cond.code (zNamAt 88) (zCodAt 88) (zMaxAt 88) (zRetAt 88) ∈ lw_tbl := List.mem_of_getElem? (i := 887) (by decide +kernel)
theorem zw_89 : Cond.code (zNamAt 89) (zCodAt 89) (zMaxAt 89) (zRetAt 89) ∈ lw_tbl := List.mem_of_getElem? (i := 899) (by decide +kernel)
theorem zw_90 : Cond.code (zNamAt 90) (zCodAt 90) (zMaxAt 90) (zRetAt 90) ∈ lw_tbl := List.mem_of_getElem? (i := 907) (by decide +kernel)
theorem zw_91 : Cond.code (zNamAt 91) (zCodAt 91) (zMaxAt 91) (zRetAt 91) ∈ lw_tbl := List.mem_of_getElem? (i := 911) (by decide +kernel)
theorem zw_92 : Cond.code (zNamAt 92) (zCodAt 92) (zMaxAt 92) (zRetAt 92) ∈ lw_tbl := List.mem_of_getElem? (i := 915) (by decide +kernel)
theorem zw_93 : Cond.code (zNamAt 93) (zCodAt 93) (zMaxAt 93) (zRetAt 93) ∈ lw_tbl := List.mem_of_getElem? (i := 930) (by decide +kernel)
theorem zw_94 : Cond.code (zNamAt 94) (zCodAt 94) (zMaxAt 94) (zRetAt 94) ∈ lw_tbl := List.mem_of_getElem? (i := 953) (by decide +kernel)
theorem zw_95 : Cond.code (zNamAt 95) (zCodAt 95) (zMaxAt 95) (zRetAt 95) ∈ lw_tbl := List.mem_of_getElem? (i := 957) (by decide +kernel)
theorem zw_96 : Cond.code (zNamAt 96) (zCodAt 96) (zMaxAt 96) (zRetAt 96) ∈ lw_tbl := List.mem_of_getElem? (i := 961) (by decide +kernel)
theorem zw_97 : Cond.code (zNamAt 97) (zCodAt 97) (zMaxAt 97) (zRetAt 97) ∈ lw_tbl := List.mem_of_getElem? (i := 965) (by decide +kernel)
theorem zw_98 : Cond.code (zNamAt 98) (zCodAt 98) (zMaxAt 98) (zRetAt 98) ∈ lw_tbl := List.mem_of_getElem? (i := 985) (by decide +kernel)
theorem zw_99 : Cond.code (zNamAt 99) (zCodAt 99) (zMaxAt 99) (zRetAt 99) ∈ lw_tbl := List.mem_of_getElem? (i := 990) (by decide +kernel)
theorem zw_100 : Cond.code (zNamAt 100) (zCodAt 100) (zMaxAt 100) (zRetAt 100) ∈ lw_tbl := List.mem_of_getElem? (i := 995) (by decide +kernel)
theorem zw_101 : Cond.code (zNamAt 101) (zCodAt 101) (zMaxAt 101) (zRetAt 101) ∈ lw_tbl := List.mem_of_getElem? (i := 1021) (by decide +kernel)
theorem zw_102 : Cond.code (zNamAt 102) (zCodAt 102) (zMaxAt 102) (zRetAt 102) ∈ lw_tbl := List.mem_of_getElem? (i := 1025) (by decide +kernel)
theorem zw_103 : Cond.code (zNamAt 103) (zCodAt 103) (zMaxAt 103) (zRetAt 103) ∈ lw_tbl := List.mem_of_getElem? (i := 671) (by decide +kernel)
theorem zw_104 : Cond.code (zNamAt 104) (zCodAt 104) (zMaxAt 104) (zRetAt 104) ∈ lw_tbl := List.mem_of_getElem? (i := 698) (by decide +kernel)
theorem zw_105 : Cond.code (zNamAt 105) (zCodAt 105) (zMaxAt 105) (zRetAt 105) ∈ lw_tbl := List.mem_of_getElem? (i := 796) (by decide +kernel)
theorem zw_106 : Cond.code (zNamAt 106) (zCodAt 106) (zMaxAt 106) (zRetAt 106) ∈ lw_tbl := List.mem_of_getElem? (i := 465) (by decide +kernel)
theorem zw_107 : Cond.code (zNamAt 107) (zCodAt 107) (zMaxAt 107) (zRetAt 107) ∈ lw_tbl := List.mem_of_getElem? (i := 678) (by decide +kernel)
theorem zw_108 : Cond.code (zNamAt 108) (zCodAt 108) (zMaxAt 108) (zRetAt 108) ∈ lw_tbl := List.mem_of_getElem? (i := 922) (by decide +kernel)
theorem zw_109 : Cond.code (zNamAt 109) (zCodAt 109) (zMaxAt 109) (zRetAt 109) ∈ lw_tbl := List.mem_of_getElem? (i := 710) (by decide +kernel)
theorem zw_110 : Cond.code (zNamAt 110) (zCodAt 110) (zMaxAt 110) (zRetAt 110) ∈ lw_tbl := List.mem_of_getElem? (i := 814) (by decide +kernel)
theorem zw_111 : Cond.code (zNamAt 111) (zCodAt 111) (zMaxAt 111) (zRetAt 111) ∈ lw_tbl := List.mem_of_getElem? (i := 875) (by decide +kernel)
theorem zw_112 : Cond.code (zNamAt 112) (zCodAt 112) (zMaxAt 112) (zRetAt 112) ∈ lw_tbl := List.mem_of_getElem? (i := 762) (by decide +kernel)
theorem zw_113 : Cond.code (zNamAt 113) (zCodAt 113) (zMaxAt 113) (zRetAt 113) ∈ lw_tbl := List.mem_of_getElem? (i := 810) (by decide +kernel)
theorem zw_114 : Cond.code (zNamAt 114) (zCodAt 114) (zMaxAt 114) (zRetAt 114) ∈ lw_tbl := List.mem_of_getElem? (i := 891) (by decide +kernel)
theorem zw_115 : Cond.code (zNamAt 115) (zCodAt 115) (zMaxAt 115) (zRetAt 115) ∈ lw_tbl := List.mem_of_getElem? (i := 934) (by decide +kernel)
theorem zw_116 : Cond.code (zNamAt 116) (zCodAt 116) (zMaxAt 116) (zRetAt 116) ∈ lw_tbl := List.mem_of_getElem? (i := 903) (by decide +kernel)
theorem zw_117 : Cond.code (zNamAt 117) (zCodAt 117) (zMaxAt 117) (zRetAt 117) ∈ lw_tbl := List.mem_of_getElem? (i := 802) (by decide +kernel)
theorem zw_118 : Cond.code (zNamAt 118) (zCodAt 118) (zMaxAt 118) (zRetAt 118) ∈ lw_tbl := List.mem_of_getElem? (i := 1030) (by decide +kernel)
theorem zw_119 : Cond.code (zNamAt 119) (zCodAt 119) (zMaxAt 119) (zRetAt 119) ∈ lw_tbl := List.mem_of_getElem? (i := 1179) (by decide +kernel)
theorem zw_120 : Cond.code (zNamAt 120) (zCodAt 120) (zMaxAt 120) (zRetAt 120) ∈ lw_tbl := List.mem_of_getElem? (i := 1326) (by decide +kernel)
theorem zw_121 : Cond.code (zNamAt 121) (zCodAt 121) (zMaxAt 121) (zRetAt 121) ∈ lw_tbl := List.mem_of_getElem? (i := 1251) (by decide +kernel)
theorem zw_122 : Cond.code (zNamAt 122) (zCodAt 122) (zMaxAt 122) (zRetAt 122) ∈ lw_tbl := List.mem_of_getElem? (i := 1275) (by decide +kernel)
theorem zw_123 : Cond.code (zNamAt 123) (zCodAt 123) (zMaxAt 123) (zRetAt 123) ∈ lw_tbl := List.mem_of_getElem? (i := 1176) (by decide +kernel)
theorem zw_124 : Cond.code (zNamAt 124) (zCodAt 124) (zMaxAt 124) (zRetAt 124) ∈ lw_tbl := List.mem_of_getElem? (i := 1191) (by decide +kernel)
theorem zw_125 : Cond.code (zNamAt 125) (zCodAt 125) (zMaxAt 125) (zRetAt 125) ∈ lw_tbl := List.mem_of_getElem? (i := 1206) (by decide +kernel)
theorem zw_126 : Cond.code (zNamAt 126) (zCodAt 126) (zMaxAt 126) (zRetAt 126) ∈ lw_tbl := List.mem_of_getElem? (i := 1200) (by decide +kernel)
theorem zw_127 : Cond.code (zNamAt 127) (zCodAt 127) (zMaxAt 127) (zRetAt 127) ∈ lw_tbl := List.mem_of_getElem? (i := 1210) (by decide +kernel)
theorem zw_128 : Cond.code (zNamAt 128) (zCodAt 128) (zMaxAt 128) (zRetAt 128) ∈ lw_tbl := List.mem_of_getElem? (i := 1237) (by decide +kernel)
theorem zw_129 : Cond.code (zNamAt 129) (zCodAt 129) (zMaxAt 129) (zRetAt 129) ∈ lw_tbl := List.mem_of_getElem? (i := 1232) (by decide +kernel)
theorem zw_130 : Cond.code (zNamAt 130) (zCodAt 130) (zMaxAt 130) (zRetAt 130) ∈ lw_tbl := List.mem_of_getElem? (i := 1228) (by decide +kernel)
theorem zw_131 : Cond.code (zNamAt 131) (zCodAt 131) (zMaxAt 131) (zRetAt 131) ∈ lw_tbl := List.mem_of_getElem? (i := 1224) (by decide +kernel)
theorem zw_132 : Cond.code (zNamAt 132) (zCodAt 132) (zMaxAt 132) (zRetAt 132) ∈ lw_tbl := List.mem_of_getElem? (i := 1220) (by decide +kernel)
theorem zw_133 : Cond.code (zNamAt 133) (zCodAt 133) (zMaxAt 133) (zRetAt 133) ∈ lw_tbl := List.mem_of_getElem? (i := 1216) (by decide +kernel)
theorem zw_134 : Cond.code (zNamAt 134) (zCodAt 134) (zMaxAt 134) (zRetAt 134) ∈ lw_tbl := List.mem_of_getElem? (i := 1196) (by decide +kernel)
theorem zw_135 : Cond.code (zNamAt 135) (zCodAt 135) (zMaxAt 135) (zRetAt 135) ∈ lw_tbl := List.mem_of_getElem? (i := 1187) (by decide +kernel)
theorem zw_136 : Cond.code (zNamAt 136) (zCodAt 136) (zMaxAt 136) (zRetAt 136) ∈ lw_tbl := List.mem_of_getElem? (i := 1183) (by decide +kernel)
theorem zw_137 : Cond.code (zNamAt 137) (zCodAt 137) (zMaxAt 137) (zRetAt 137) ∈ lw_tbl := List.mem_of_getElem? (i := 1283) (by decide +kernel)
theorem zw_138 : Cond.code (zNamAt 138) (zCodAt 138) (zMaxAt 138) (zRetAt 138) ∈ lw_tbl := List.mem_of_getElem? (i := 1323) (by decide +kernel)
theorem zw_139 : Cond.code (zNamAt 139) (zCodAt 139) (zMaxAt 139) (zRetAt 139) ∈ lw_tbl := List.mem_of_getElem? (i := 1243) (by decide +kernel)
theorem zw_140 : Cond.code (zNamAt 140) (zCodAt 140) (zMaxAt 140) (zRetAt 140) ∈ lw_tbl := List.mem_of_getElem? (i := 1247) (by decide +kernel)
theorem zw_141 : Cond.code (zNamAt 141) (zCodAt 141) (zMaxAt 141) (zRetAt 141) ∈ lw_tbl := List.mem_of_getElem? (i := 1255) (by decide +kernel)
theorem zw_142 : Cond.code (zNamAt 142) (zCodAt 142) (zMaxAt 142) (zRetAt 142) ∈ lw_tbl := List.mem_of_getElem? (i := 1259) (by decide +kernel)
theorem zw_143 : Cond.code (zNamAt 143) (zCodAt 143) (zMaxAt 143) (zRetAt 143) ∈ lw_tbl := List.mem_of_getElem? (i := 1263) (by decide +kernel)
theorem zw_144 : Cond.code (zNamAt 144) (zCodAt 144) (zMaxAt 144) (zRetAt 144) ∈ lw_tbl := List.mem_of_getElem? (i := 1267) (by decide +kernel)
theorem zw_145 : Cond.code (zNamAt 145) (zCodAt 145) (zMaxAt 145) (zRetAt 145) ∈ lw_tbl := List.mem_of_getElem? (i := 1271) (by decide +kernel)
theorem zw_146 : Cond.code (zNamAt 146) (zCodAt 146) (zMaxAt 146) (zRetAt 146) ∈ lw_tbl := List.mem_of_getElem? (i := 1279) (by decide +kernel)
theorem zw_147 : Cond.code (zNamAt 147) (zCodAt 147) (zMaxAt 147) (zRetAt 147) ∈ lw_tbl := List.mem_of_getElem? (i := 1307) (by decide +kernel)
theorem zw_148 : Cond.code (zNamAt 148) (zCodAt 148) (zMaxAt 148) (zRetAt 148) ∈ lw_tbl := List.mem_of_getElem? (i := 1303) (by decide +kernel)
theorem zw_149 : Cond.code (zNamAt 149) (zCodAt 149) (zMaxAt 149) (zRetAt 149) ∈ lw_tbl := List.mem_of_getElem? (i := 1299) (by decide +kernel)
theorem zw_150 : Cond.code (zNamAt 150) (zCodAt 150) (zMaxAt 150) (zRetAt 150) ∈ lw_tbl := List.mem_of_getElem? (i := 1295) (by decide +kernel)
theorem zw_151 : Cond.code (zNamAt 151) (zCodAt 151) (zMaxAt 151) (zRetAt 151) ∈ lw_tbl := List.mem_of_getElem? (i := 1319) (by decide +kernel)
theorem zw_152 : Cond.code (zNamAt 152) (zCodAt 152) (zMaxAt 152) (zRetAt 152) ∈ lw_tbl := List.mem_of_getElem? (i := 1315) (by decide +kernel)
theorem zw_153 : Cond.code (zNamAt 153) (zCodAt 153) (zMaxAt 153) (zRetAt 153) ∈ lw_tbl := List.mem_of_getElem? (i := 1311) (by decide +kernel)
theorem zw_154 : Cond.code (zNamAt 154) (zCodAt 154) (zMaxAt 154) (zRetAt 154) ∈ lw_tbl := List.mem_of_getElem? (i := 1291) (by decide +kernel)
theorem zw_155 : Cond.code (zNamAt 155) (zCodAt 155) (zMaxAt 155) (zRetAt 155) ∈ lw_tbl := List.mem_of_getElem? (i := 1287) (by decide +kernel)
theorem zw_156 : Cond.code (zNamAt 156) (zCodAt 156) (zMaxAt 156) (zRetAt 156) ∈ lw_tbl := List.mem_of_getElem? (i := 1330) (by decide +kernel)
theorem zw_157 : Cond.code (zNamAt 157) (zCodAt 157) (zMaxAt 157) (zRetAt 157) ∈ lw_tbl := List.mem_of_getElem? (i := 1338) (by decide +kernel)
theorem zw_158 : Cond.code (zNamAt 158) (zCodAt 158) (zMaxAt 158) (zRetAt 158) ∈ lw_tbl := List.mem_of_getElem? (i := 1342) (by decide +kernel)
theorem zw_159 : Cond.code (zNamAt 159) (zCodAt 159) (zMaxAt 159) (zRetAt 159) ∈ lw_tbl := List.mem_of_getElem? (i := 1334) (by decide +kernel)
theorem zw_160 : Cond.code (zNamAt 160) (zCodAt 160) (zMaxAt 160) (zRetAt 160) ∈ lw_tbl := List.mem_of_getElem? (i := 1372) (by decide +kernel)
theorem zw_161 : Cond.code (zNamAt 161) (zCodAt 161) (zMaxAt 161) (zRetAt 161) ∈ lw_tbl := List.mem_of_getElem? (i := 1368) (by decide +kernel)
theorem zw_162 : Cond.code (zNamAt 162) (zCodAt 162) (zMaxAt 162) (zRetAt 162) ∈ lw_tbl := List.mem_of_getElem? (i := 1376) (by decide +kernel)
theorem zw_163 : Cond.code (zNamAt 163) (zCodAt 163) (zMaxAt 163) (zRetAt 163) ∈ lw_tbl := List.mem_of_getElem? (i := 1364) (by decide +kernel)
theorem zw_164 : Cond.code (zNamAt 164) (zCodAt 164) (zMaxAt 164) (zRetAt 164) ∈ lw_tbl := List.mem_of_getElem? (i := 1358) (by decide +kernel)
theorem zw_165 : Cond.code (zNamAt 165) (zCodAt 165) (zMaxAt 165) (zRetAt 165) ∈ lw_tbl := List.mem_of_getElem? (i := 1354) (by decide +kernel)
theorem zw_166 : Cond.code (zNamAt 166) (zCodAt 166) (zMaxAt 166) (zRetAt 166) ∈ lw_tbl := List.mem_of_getElem? (i := 1350) (by decide +kernel)
theorem zw_167 : Cond.code (zNamAt 167) (zCodAt 167) (zMaxAt 167) (zRetAt 167) ∈ lw_tbl := List.mem_of_getElem? (i := 1346) (by decide +kernel)
theorem zw_168 : Cond.code (zNamAt 168) (zCodAt 168) (zMaxAt 168) (zRetAt 168) ∈ lw_tbl := List.mem_of_getElem? (i := 1380) (by decide +kernel)
theorem zw_169 : Cond.code (zNamAt 169) (zCodAt 169) (zMaxAt 169) (zRetAt 169) ∈ lw_tbl := List.mem_of_getElem? (i := 1388) (by decide +kernel)
theorem zw_170 : Cond.code (zNamAt 170) (zCodAt 170) (zMaxAt 170) (zRetAt 170) ∈ lw_tbl := List.mem_of_getElem? (i := 1392) (by decide +kernel)
theorem zw_171 : Cond.code (zNamAt 171) (zCodAt 171) (zMaxAt 171) (zRetAt 171) ∈ lw_tbl := List.mem_of_getElem? (i := 1384) (by decide +kernel)
theorem zw_172 : Cond.code (zNamAt 172) (zCodAt 172) (zMaxAt 172) (zRetAt 172) ∈ lw_tbl := List.mem_of_getElem? (i := 1396) (by decide +kernel)
theorem zw_173 : Cond.code (zNamAt 173) (zCodAt 173) (zMaxAt 173) (zRetAt 173) ∈ lw_tbl := List.mem_of_getElem? (i := 1400) (by decide +kernel)
theorem zw_174 : Cond.code (zNamAt 174) (zCodAt 174) (zMaxAt 174) (zRetAt 174) ∈ lw_tbl := List.mem_of_getElem? (i := 1404) (by decide +kernel)
theorem zw_175 : Cond.code (zNamAt 175) (zCodAt 175) (zMaxAt 175) (zRetAt 175) ∈ lw_tbl := List.mem_of_getElem? (i := 1412) (by decide +kernel)
theorem zw_176 : Cond.code (zNamAt 176) (zCodAt 176) (zMaxAt 176) (zRetAt 176) ∈ lw_tbl := List.mem_of_getElem? (i := 1416) (by decide +kernel)
theorem zw_177 : Cond.code (zNamAt 177) (zCodAt 177) (zMaxAt 177) (zRetAt 177) ∈ lw_tbl := List.mem_of_getElem? (i := 1408) (by decide +kernel)
theorem zw_178 : Cond.code (zNamAt 178) (zCodAt 178) (zMaxAt 178) (zRetAt 178) ∈ lw_tbl := List.mem_of_getElem? (i := 1420) (by decide +kernel)
theorem zw_179 : Cond.code (zNamAt 179) (zCodAt 179) (zMaxAt 179) (zRetAt 179) ∈ lw_tbl := List.mem_of_getElem? (i := 1428) (by decide +kernel)
theorem zw_180 : Cond.code (zNamAt 180) (zCodAt 180) (zMaxAt 180) (zRetAt 180) ∈ lw_tbl := List.mem_of_getElem? (i := 1424) (by decide +kernel)
theorem zw_181 : Cond.code (zNamAt 181) (zCodAt 181) (zMaxAt 181) (zRetAt 181) ∈ lw_tbl := List.mem_of_getElem? (i := 1432) (by decide +kernel)
theorem zw_182 : Cond.code (zNamAt 182) (zCodAt 182) (zMaxAt 182) (zRetAt 182) ∈ lw_tbl := List.mem_of_getElem? (i := 1436) (by decide +kernel)
theorem zw_183 : Cond.code (zNamAt 183) (zCodAt 183) (zMaxAt 183) (zRetAt 183) ∈ lw_tbl := List.mem_of_getElem? (i := 1444) (by decide +kernel)
theorem zw_184 : Cond.code (zNamAt 184) (zCodAt 184) (zMaxAt 184) (zRetAt 184) ∈ lw_tbl := List.mem_of_getElem? (i := 1440) (by decide +kernel)
theorem zw_185 : Cond.code (zNamAt 185) (zCodAt 185) (zMaxAt 185) (zRetAt 185) ∈ lw_tbl := List.mem_of_getElem? (i := 1452) (by decide +kernel)
theorem zw_186 : Cond.code (zNamAt 186) (zCodAt 186) (zMaxAt 186) (zRetAt 186) ∈ lw_tbl := List.mem_of_getElem? (i := 1448) (by decide +kernel)
theorem zw_187 : Cond.code (zNamAt 187) (zCodAt 187) (zMaxAt 187) (zRetAt 187) ∈ lw_tbl := List.mem_of_getElem? (i := 1456) (by decide +kernel)
theorem zw_188 : Cond.code (zNamAt 188) (zCodAt 188) (zMaxAt 188) (zRetAt 188) ∈ lw_tbl := List.mem_of_getElem? (i := 1460) (by decide +kernel)
theorem zw_189 : Cond.code (zNamAt 189) (zCodAt 189) (zMaxAt 189) (zRetAt 189) ∈ lw_tbl := List.mem_of_getElem? (i := 1464) (by decide +kernel)
theorem zw_190 : Cond.code (zNamAt 190) (zCodAt 190) (zMaxAt 190) (zRetAt 190) ∈ lw_tbl := List.mem_of_getElem? (i := 1472) (by decide +kernel)
theorem zw_191 : Cond.code (zNamAt 191) (zCodAt 191) (zMaxAt 191) (zRetAt 191) ∈ lw_tbl := List.mem_of_getElem? (i := 1468) (by decide +kernel)
theorem zw_192 : Cond.code (zNamAt 192) (zCodAt 192) (zMaxAt 192) (zRetAt 192) ∈ lw_tbl := List.mem_of_getElem? (i := 1476) (by decide +kernel)
theorem zw_193 : Cond.code (zNamAt 193) (zCodAt 193) (zMaxAt 193) (zRetAt 193) ∈ lw_tbl := List.mem_of_getElem? (i := 1480) (by decide +kernel)
theorem zw_194 : Cond.code (zNamAt 194) (zCodAt 194) (zMaxAt 194) (zRetAt 194) ∈ lw_tbl := List.mem_of_getElem? (i := 1484) (by decide +kernel)
theorem zw_195 : Cond.code (zNamAt 195) (zCodAt 195) (zMaxAt 195) (zRetAt 195) ∈ lw_tbl := List.mem_of_getElem? (i := 1499) (by decide +kernel)
theorem zw_196 : Cond.code (zNamAt 196) (zCodAt 196) (zMaxAt 196) (zRetAt 196) ∈ lw_tbl := List.mem_of_getElem? (i := 1495) (by decide +kernel)
theorem zw_197 : Cond.code (zNamAt 197) (zCodAt 197) (zMaxAt 197) (zRetAt 197) ∈ lw_tbl := List.mem_of_getElem? (i := 1503) (by decide +kernel)
theorem zw_198 : Cond.code (zNamAt 198) (zCodAt 198) (zMaxAt 198) (zRetAt 198) ∈ lw_tbl := List.mem_of_getElem? (i := 1492) (by decide +kernel)
theorem zw_199 : Cond.code (zNamAt 199) (zCodAt 199) (zMaxAt 199) (zRetAt 199) ∈ lw_tbl := List.mem_of_getElem? (i := 1511) (by decide +kernel)
theorem zw_200 : Cond.code (zNamAt 200) (zCodAt 200) (zMaxAt 200) (zRetAt 200) ∈ lw_tbl := List.mem_of_getElem? (i := 1507) (by decide +kernel)
theorem zw_201 : Cond.code (zNamAt 201) (zCodAt 201) (zMaxAt 201) (zRetAt 201) ∈ lw_tbl := List.mem_of_getElem? (i := 1519) (by decide +kernel)
theorem zw_202 : Cond.code (zNamAt 202) (zCodAt 202) (zMaxAt 202) (zRetAt 202) ∈ lw_tbl := List.mem_of_getElem? (i := 1515) (by decide +kernel)
theorem zw_203 : Cond.code (zNamAt 203) (zCodAt 203) (zMaxAt 203) (zRetAt 203) ∈ lw_tbl := List.mem_of_getElem? (i := 1488) (by decide +kernel)
theorem zw_204 : Cond.code (zNamAt 204) (zCodAt 204) (zMaxAt 204) (zRetAt 204) ∈ lw_tbl := List.mem_of_getElem? (i := 1523) (by decide +kernel)
theorem zw_205 : Cond.code (zNamAt 205) (zCodAt 205) (zMaxAt 205) (zRetAt 205) ∈ lw_tbl := List.mem_of_getElem? (i := 1527) (by decide +kernel)
theorem zw_206 : Cond.code (zNamAt 206) (zCodAt 206) (zMaxAt 206) (zRetAt 206) ∈ lw_tbl := List.mem_of_getElem? (i := 1531) (by decide +kernel)
theorem zw_207 : Cond.code (zNamAt 207) (zCodAt 207) (zMaxAt 207) (zRetAt 207) ∈ lw_tbl := List.mem_of_getElem? (i := 1535) (by decide +kernel)
theorem zw_208 : Cond.code (zNamAt 208) (zCodAt 208) (zMaxAt 208) (zRetAt 208) ∈ lw_tbl := List.mem_of_getElem? (i := 1539) (by decide +kernel)
theorem zw_209 : Cond.code (zNamAt 209) (zCodAt 209) (zMaxAt 209) (zRetAt 209) ∈ lw_tbl := List.mem_of_getElem? (i := 502) (by decide +kernel)
theorem zw_210 : Cond.code (zNamAt 210) (zCodAt 210) (zMaxAt 210) (zRetAt 210) ∈ lw_tbl := List.mem_of_getElem? (i := 512) (by decide +kernel)
theorem zw_211 : Cond.code (zNamAt 211) (zCodAt 211) (zMaxAt 211) (zRetAt 211) ∈ lw_tbl := List.mem_of_getElem? (i := 563) (by decide +kernel)
theorem zw_212 : Cond.code (zNamAt 212) (zCodAt 212) (zMaxAt 212) (zRetAt 212) ∈ lw_tbl := List.mem_of_getElem? (i := 567) (by decide +kernel)
theorem zw_213 : Cond.code (zNamAt 213) (zCodAt 213) (zMaxAt 213) (zRetAt 213) ∈ lw_tbl := List.mem_of_getElem? (i := 506) (by decide +kernel)
theorem zw_214 : Cond.code (zNamAt 214) (zCodAt 214) (zMaxAt 214) (zRetAt 214) ∈ lw_tbl := List.mem_of_getElem? (i := 516) (by decide +kernel)
theorem zw_215 : Cond.code (zNamAt 215) (zCodAt 215) (zMaxAt 215) (zRetAt 215) ∈ lw_tbl := List.mem_of_getElem? (i := 522) (by decide +kernel)
theorem zw_216 : Cond.code (zNamAt 216) (zCodAt 216) (zMaxAt 216) (zRetAt 216) ∈ lw_tbl := List.mem_of_getElem? (i := 519) (by decide +kernel)
theorem zw_217 : Cond.code (zNamAt 217) (zCodAt 217) (zMaxAt 217) (zRetAt 217) ∈ lw_tbl := List.mem_of_getElem? (i := 574) (by decide +kernel)
theorem zw_218 : Cond.code (zNamAt 218) (zCodAt 218) (zMaxAt 218) (zRetAt 218) ∈ lw_tbl := List.mem_of_getElem? (i := 571) (by decide +kernel)
theorem zw_219 : Cond.code (zNamAt 219) (zCodAt 219) (zMaxAt 219) (zRetAt 219) ∈ lw_tbl := List.mem_of_getElem? (i := 581) (by decide +kernel)
theorem zw_220 : Cond.code (zNamAt 220) (zCodAt 220) (zMaxAt 220) (zRetAt 220) ∈ lw_tbl := List.mem_of_getElem? (i := 527) (by decide +kernel)
def zwP (a : Nat) : Prop := Cond.code (zNamAt a) (zCodAt a) (zMaxAt a) (zRetAt a) ∈ lw_tbl
theorem zwA_0 : ∀ a, a < 20 → zwP a := lt_s (lt_s (lt_s (lt_s (lt_s (lt_s (lt_s (lt_s (lt_s (lt_s (lt_s (lt_s (lt_s (lt_s (lt_s (lt_s (lt_s (lt_s (lt_s (lt_s lt_0 zw_0) zw_1) zw_2) zw_3) zw_4) zw_5) zw_6) zw_7) zw_8) zw_9) zw_10) zw_11) zw_12) zw_13) zw_14) zw_15) zw_16) zw_17) zw_18) zw_19
theorem zwA_20 : ∀ a, a < 40 → zwP a := lt_s (lt_s (lt_s (lt_s (lt_s (lt_s (lt_s (lt_s (lt_s (lt_s (lt_s (lt_s (lt_s (lt_s (lt_s (lt_s (lt_s (lt_s (lt_s (lt_s zwA_0 zw_20) zw_21) zw_22) zw_23) zw_24) zw_25) zw_26) zw_27) zw_28) zw_29) zw_30) zw_31) zw_32) zw_33) zw_34) zw_35) zw_36) zw_37) zw_38) zw_39
theorem zwA_40 : ∀ a, a < 60 → zwP a := lt_s (lt_s (lt_s (lt_s (lt_s (lt_s (lt_s (lt_s (lt_s (lt_s (lt_s (lt_s (lt_s (lt_s (lt_s (lt_s (lt_s (lt_s (lt_s (lt_s zwA_20 zw_40) zw_41) zw_42) zw_43) zw_44) zw_45) zw_46) zw_47) zw_48) zw_49) zw_50) zw_51) zw_52) zw_53) zw_54) zw_55) zw_56) zw_57) zw_58) zw_59
theorem zwA_60 : ∀ a, a < 80 → zwP a := lt_s (lt_s (lt_s (lt_s (lt_s (lt_s (lt_s (lt_s (lt_s (lt_s (lt_s (lt_s (lt_s (lt_s (lt_s (lt_s (lt_s (lt_s (lt_s (lt_s zwA_40 zw_60) zw_61) zw_62) zw_63) zw_64) zw_65) zw_66) zw_67) zw_68) zw_69) zw_70) zw_71) zw_72) zw_73) zw_74) zw_75) zw_76) zw_77) zw_78) zw_79
theorem zwA_80 : ∀ a, a < 100 → zwP a := lt_s (lt_s (lt_s (lt_s (lt_s (lt_s (lt_s (lt_s (lt_s (lt_s (lt_s (lt_s (lt_s (lt_s (lt_s (lt_s (lt_s (lt_s (lt_s (lt_s zwA_60 zw_80) zw_81) zw_82) zw_83) zw_84) zw_85) zw_86) zw_87) zw_88) zw_89) zw_90) zw_91) zw_92) zw_93) zw_94) zw_95) zw_96) zw_97) zw_98) zw_99
theorem zwA_100 : ∀ a, a < 120 → zwP a := lt_s (lt_s (lt_s (lt_s (lt_s (lt_s (lt_s (lt_s (lt_s (lt_s (lt_s (lt_s (lt_s (lt_s (lt_s (lt_s (lt_s (lt_s (lt_s (lt_s zwA_80 zw_100) zw_101) zw_102) zw_103) zw_104) zw_105) zw_106) zw_107) zw_108) zw_109) zw_110) zw_111) zw_112) zw_113) zw_114) zw_115) zw_116) zw_117) zw_118) zw_119
theorem zwA_120 : ∀ a, a < 140 → zwP a := lt_s (lt_s (lt_s (lt_s (lt_s (lt_s (lt_s (lt_s (lt_s (lt_s (lt_s (lt_s (lt_s (lt_s (lt_s (lt_s (lt_s (lt_s (lt_s (lt_s zwA_100 zw_120) zw_121) zw_122) zw_123) zw_124) zw_125) zw_126) zw_127) zw_128) zw_129) zw_130) zw_131) zw_132) zw_133) zw_134) zw_135) zw_136) zw_137) zw_138) zw_139
theorem zwA_140 : ∀ a, a < 160 → zwP a := lt_s (lt_s (lt_s (lt_s (lt_s (lt_s (lt_s (lt_s (lt_s (lt_s (lt_s (lt_s (lt_s (lt_s (lt_s (lt_s (lt_s (lt_s (lt_s (lt_s zwA_120 zw_140) zw_141) zw_142) zw_143) zw_144) zw_145) zw_146) zw_147) zw_148) zw_149) zw_150) zw_151) zw_152) zw_153) zw_154) zw_155) zw_156) zw_157) zw_158) zw_159
theorem zwA_160 : ∀ a, a < 180 → zwP a := lt_s (lt_s (lt_s (lt_s (lt_s (lt_s (lt_s (lt_s (lt_s (lt_s (lt_s (lt_s (lt_s (lt_s (lt_s (lt_s (lt_s (lt_s (lt_s (lt_s zwA_140 zw_160) zw_161) zw_162) zw_163) zw_164) zw_165) zw_166) zw_167) zw_168) zw_169) zw_170) zw_171) zw_172) zw_173) zw_174) zw_175) zw_176) zw_177) zw_178) zw_179
theorem zwA_180 : ∀ a, a < 200 → zwP a := lt_s (lt_s (lt_s (lt_s (lt_s (lt_s (lt_s (lt_s (lt_s (lt_s (lt_s (lt_s (lt_s (lt_s (lt_s (lt_s (lt_s (lt_s (lt_s (lt_s zwA_160 zw_180) zw_181) zw_182) zw_183) zw_184) zw_185) zw_186) zw_187) zw_188) zw_189) zw_190) zw_191) zw_192) zw_193) zw_194) zw_195) zw_196) zw_197) zw_198) zw_199
theorem zwA_200 : ∀ a, a < 220 → zwP a := lt_s (lt_s (lt_s (lt_s (lt_s (lt_s (lt_s (lt_s (lt_s (lt_s (lt_s (lt_s (lt_s (lt_s (lt_s (lt_s (lt_s (lt_s (lt_s (lt_s zwA_180 zw_200) zw_201) zw_202) zw_203) zw_204) zw_205) zw_206) zw_207) zw_208) zw_209) zw_210) zw_211) zw_212) zw_213) zw_214) zw_215) zw_216) zw_217) zw_218) zw_219
theorem zwA_220 : ∀ a, a < 221 → zwP a := lt_s zwA_200 zw_220
theorem zw_all : ∀ a, a < 221 → Cond.code (zNamAt a) (zCodAt a) (zMaxAt a) (zRetAt a) ∈ lw_tbl := zwA_220
theorem obj_ok : Cond.instanceMethod Lib.objectInit ∈ lw_tbl ∧ Cond.code Lib.objectInit ⟨#[0xb1]⟩ 1 none ∈ lw_tbl := ⟨wAt_in (n := 102) (by decide +kernel), wAt_in (n := 103) (by decide +kernel)⟩
theorem cpy_ok : Cond.native arraycopyName ∈ lw_tbl ∧ Cond.static arraycopyName ∈ lw_tbl ∧ Cond.initialized "java/lang/System" ∈ lw_tbl := ⟨wAt_in (n := 654) (by decide +kernel), wAt_in (n := 653) (by decide +kernel), wAt_in (n := 95) (by decide +kernel)⟩
theorem zret_rc : ∀ mid, mid < 222 → (match zRcAt mid with
  | 0 => decide (zRetAt mid = some .int)
  | 1 => decide (zRetAt mid = some .boolean)
  | 2 => decide (zRetAt mid = some .char)
  | 3 => decide (zRetAt mid = some .byte)
  | 8 => decide (zRetAt mid = some .long)
  | 9 => decide (zRetAt mid = none)
  | _ => false) = true := by decide +kernel
theorem zMax_le : ∀ mid, mid < 222 → zMaxAt mid ≤ 14 ∧ (zIsInit mid = true → (zNamAt mid).name = "<init>") := by decide +kernel
theorem zplain : ∀ mid, mid < 222 → plainName (zNamAt mid).cls = true := by decide +kernel
theorem math_ok : (Cond.static Lib.Math.max.name ∈ lw_tbl ∧ Cond.code Lib.Math.max.name Lib.Math.max.code 2 (some .int) ∈ lw_tbl) ∧ (Cond.static Lib.Math.min.name ∈ lw_tbl ∧ Cond.code Lib.Math.min.name Lib.Math.min.code 2 (some .int) ∈ lw_tbl) ∧ (Cond.static Lib.MathLoose.max_long.x ∈ lw_tbl ∧ Cond.code Lib.MathLoose.max_long.x Lib.MathLoose.max_long.code 4 (some .long) ∈ lw_tbl) ∧ Cond.initialized "java/lang/Math" ∈ lw_tbl :=
  ⟨⟨wAt_in (n := 576) (by decide +kernel), wAt_in (n := 577) (by decide +kernel)⟩, ⟨wAt_in (n := 475) (by decide +kernel), wAt_in (n := 476) (by decide +kernel)⟩, ⟨wAt_in (n := 841) (by decide +kernel), wAt_in (n := 842) (by decide +kernel)⟩, wAt_in (n := 89) (by decide +kernel)⟩
theorem zcls_ok : ∀ mid, mid < 222 → (zNamAt mid).cls = zClsAt (zOwAt mid) := by decide +kernel
theorem zstr_ok : ∀ q ∈ zF, q.2.2.1 = 12 → q.1 = 12 ∧ ((q.2.1 = 9 ∧ q.2.2.2 = 0) ∨ (q.2.1 = 15 ∧ q.2.2.2 = 1)) := by decide +kernel
theorem zstr_v : Cond.fieldLink (zClsAt 12) 9 "java/lang/String" "value" "[B" ∈ lw_good := lw_good_in (wAt_in (n := 1540) (by decide +kernel)) rfl
theorem zstr_c : Cond.fieldLink (zClsAt 12) 15 "java/lang/String" "coder" "B" ∈ lw_good := lw_good_in (wAt_in (n := 1541) (by decide +kernel)) rfl
