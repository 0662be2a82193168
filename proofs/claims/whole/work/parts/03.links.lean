/-! the links and the codes of part 02 are the tables' and the class files' -/
def am_TT : List Jvm.Cond := lw_tbl.filter goodWord
theorem am_mem {z : Nat} {w : Jvm.Cond} (h : lw_tbl[z]? = some w) (hg : goodWord w = true) : w ∈ am_TT := List.mem_filter.mpr ⟨List.mem_of_getElem? h, hg⟩
def am_yn (k m : Nat) : MethodName := match k with
  | 5 => objectInit
  | 6 => Lib.Math.max.name
  | 7 => Lib.Math.min.name
  | 8 => Lib.Math.abs.name
  | 9 => Lib.MathLoose.max_long.x
  | 10 => Lib.MathLoose.abs_long.x
  | 11 => arraycopyName
  | 12 => yJ0_length_8abf5
  | 13 => yJ0_charAt_5068e
  | _ => match am_all[m]? with
    | some r => r.1
    | none => objectInit
def am_lw (q : Nat × Nat × Nat × Nat × Nat) : Jvm.Cond := match q.2.2.2.1 with
  | 3 => .methodLinkNest (am_RO q.1) q.2.1 (am_yn q.2.2.2.1 q.2.2.1) RX6
  | 4 => .methodLinkNest (am_RO q.1) q.2.1 (am_yn q.2.2.2.1 q.2.2.1) RX6
  | _ => .methodLink (am_RO q.1) q.2.1 (am_yn q.2.2.2.1 q.2.2.1)
set_option maxRecDepth 100000 in
theorem lkF_ok : ∀ q ∈ lkF, lw_tbl[q.2.2.2.2]? = some (Jvm.Cond.fieldLink (am_RO q.1) q.2.1 (am_T q.2.2.1 q.2.2.2.1).1 (am_T q.2.2.1 q.2.2.2.1).2.1 (am_T q.2.2.1 q.2.2.2.1).2.2.1) ∧ q.2.2.1 < 8 ∧ q.2.2.2.1 < am_N q.2.2.1 := by decide +kernel
set_option maxRecDepth 100000 in
theorem lkM_ok : ∀ q ∈ lkM, lw_tbl[q.2.2.2.2]? = some (am_lw q) := by decide +kernel
def am_cn (a : Nat) : String := match a with
  | 99 => "[[I"
  | _ => am_RO a
set_option maxRecDepth 100000 in
theorem lkN_ok : ∀ q ∈ lkN, lw_tbl[q.2.2.2]? = some (Jvm.Cond.classLink (am_RO q.1) q.2.1 (am_cn q.2.2.1)) := by decide +kernel
def am_kw (q : Nat × Nat × Value × Nat) : Option Jvm.Cond := match q.2.2.1 with
  | .int v => some (.constant (am_RO q.1) q.2.1 v)
  | .long v => some (.constantLong (am_RO q.1) q.2.1 v)
  | _ => none
set_option maxRecDepth 100000 in
theorem lkK_ok : ∀ q ∈ lkK, lw_tbl[q.2.2.2]? = am_kw q := by decide +kernel
set_option maxRecDepth 100000 in
theorem lkS_ok : ∀ q ∈ lkS, lw_tbl[q.2.2.2]? = some (Jvm.Cond.stringRef (am_RO q.1) q.2.1 q.2.2.1) := by decide +kernel

def am_mw : List (Nat × Nat × Nat × Nat) := [
  (190, 189, 0, 74), (458, 456, 457, 74), (462, 461, 2, 74), (467, 466, 3, 74), (472, 471, 4, 74), (476, 475, 5, 74), (480, 479, 6, 74), (485, 483, 484, 74),
  (243, 242, 0, 75), (528, 526, 527, 75), (506, 505, 0, 75), (533, 531, 532, 75), (549, 547, 548, 75), (173, 172, 0, 73), (378, 376, 377, 73), (382, 381, 1, 73),
  (799, 797, 798, 73), (811, 809, 810, 73), (303, 302, 0, 77), (852, 850, 851, 77), (830, 828, 829, 77), (844, 842, 843, 77), (834, 832, 833, 77), (98, 97, 0, 72),
  (360, 358, 359, 72), (446, 444, 445, 72), (450, 448, 449, 72), (403, 401, 402, 72), (407, 405, 406, 72), (410, 409, 0, 72), (367, 365, 366, 72), (391, 389, 390, 72),
  (399, 397, 398, 72), (421, 419, 420, 72), (429, 427, 428, 72), (437, 435, 436, 72), (761, 759, 760, 72), (765, 763, 764, 72), (769, 768, 23, 72), (772, 771, 0, 72),
  (576, 574, 575, 72), (584, 582, 583, 72), (594, 592, 593, 72), (616, 614, 615, 72), (620, 619, 7, 72), (624, 622, 623, 72), (781, 779, 780, 72), (258, 257, 0, 76),
  (632, 630, 631, 76), (753, 751, 752, 76), (640, 638, 639, 76), (644, 643, 8, 76), (656, 655, 11, 76), (661, 660, 12, 76), (720, 719, 14, 76), (724, 723, 15, 76),
  (737, 736, 18, 76), (741, 740, 19, 76), (749, 748, 21, 76), (745, 744, 20, 76), (732, 731, 17, 76), (728, 727, 16, 76), (648, 647, 9, 76), (652, 651, 10, 76),
  (716, 715, 13, 76), (90, 89, 0, 71), (356, 354, 355, 71), (387, 385, 386, 71), (395, 393, 394, 71), (417, 415, 416, 71), (425, 423, 424, 71), (433, 431, 432, 71),
  (441, 439, 440, 71), (454, 452, 453, 71), (489, 487, 488, 71), (493, 491, 492, 71), (497, 495, 496, 71), (523, 521, 522, 71), (545, 543, 544, 71), (560, 558, 559, 71),
  (564, 562, 563, 71), (572, 570, 571, 71), (580, 578, 579, 71), (608, 606, 607, 71), (612, 610, 611, 71), (628, 626, 627, 71), (636, 634, 635, 71), (777, 775, 776, 71),
  (795, 793, 794, 71), (803, 801, 802, 71), (807, 805, 806, 71), (815, 813, 814, 71), (819, 817, 818, 71), (840, 838, 839, 71), (848, 846, 847, 71), (856, 854, 855, 71),
  (860, 858, 859, 71), (864, 862, 863, 71), (374, 373, 0, 71), (757, 756, 22, 71), (823, 822, 24, 71), (370, 369, 0, 71), (500, 499, 0, 71), (503, 502, 0, 71),
  (826, 825, 0, 71), (515, 514, 0, 71), (413, 412, 0, 71), (518, 517, 0, 71), (587, 586, 0, 71), (590, 589, 0, 71), (604, 603, 0, 71), (870, 869, 0, 78),
  (964, 963, 0, 78), (1045, 1044, 0, 78), (1042, 1041, 0, 78), (972, 971, 25, 78), (995, 994, 30, 78), (991, 990, 29, 78), (984, 983, 28, 78), (987, 986, 0, 78),
  (980, 979, 27, 78), (976, 975, 26, 78), (1007, 1006, 32, 78), (999, 998, 31, 78), (1011, 1010, 33, 78), (960, 958, 959, 78), (968, 966, 967, 78), (1003, 1001, 1002, 78),
  (1019, 1018, 34, 78), (1023, 1022, 35, 78), (1015, 1013, 1014, 78), (1035, 1034, 37, 78), (1039, 1038, 38, 78), (1031, 1030, 36, 78), (1027, 1025, 1026, 78), (1054, 1053, 39, 78),
  (1059, 1058, 40, 78), (1049, 1047, 1048, 78), (1069, 1068, 41, 78), (1065, 1063, 1064, 78), (1073, 1071, 1072, 78), (1078, 1076, 1077, 78), (1086, 1085, 42, 78), (1090, 1089, 43, 78),
  (1094, 1093, 44, 78), (1102, 1101, 46, 78), (1105, 1104, 0, 78), (1098, 1097, 45, 78), (1108, 1107, 0, 78), (1112, 1111, 47, 78), (1118, 1117, 0, 78), (1115, 1114, 0, 78),
  (1082, 1080, 1081, 78), (1122, 1120, 1121, 78), (1126, 1124, 1125, 78), (1134, 1133, 48, 78), (1147, 1146, 51, 78), (1143, 1142, 50, 78), (1138, 1137, 49, 78), (1155, 1154, 52, 78),
  (1164, 1163, 53, 78), (1172, 1171, 54, 78), (1180, 1179, 55, 78), (1189, 1188, 56, 78), (1130, 1128, 1129, 78), (1151, 1149, 1150, 78), (1160, 1158, 1159, 78), (1168, 1166, 1167, 78),
  (1176, 1174, 1175, 78), (1185, 1183, 1184, 78), (1194, 1192, 1193, 78), (1198, 1196, 1197, 78), (1208, 1207, 57, 78), (1212, 1211, 58, 78), (1236, 1235, 61, 78), (1250, 1249, 64, 78),
  (1240, 1239, 62, 78), (1254, 1253, 65, 78), (1231, 1230, 60, 78), (1246, 1245, 63, 78), (1216, 1215, 59, 78), (1258, 1257, 66, 78), (1266, 1265, 68, 78), (1262, 1261, 67, 78),
  (1223, 1222, 0, 78), (1204, 1202, 1203, 78), (1270, 1268, 1269, 78), (1279, 1277, 1278, 78), (1283, 1281, 1282, 78), (1287, 1285, 1286, 78), (1291, 1289, 1290, 78), (1298, 1297, 0, 78),
  (1310, 1309, 0, 78), (1303, 1302, 69, 78), (1295, 1293, 1294, 78), (1307, 1305, 1306, 78), (1314, 1312, 1313, 78), (1318, 1316, 1317, 78), (1322, 1320, 1321, 78), (1326, 1324, 1325, 78),
  (598, 597, 0, 81), (0, 0, 0, 0)]
def am_mok (q : Nat × Nat × Nat × Nat) (r : AR) : Bool :=
  decide (lw_tbl[q.1]? = some (Jvm.Cond.code r.1 r.2.1 r.2.2.1 r.2.2.2.1)) &&
  decide (lw_tbl[q.2.1]? = some (cond r.2.2.2.2.2.2.1 (Jvm.Cond.static r.1) (Jvm.Cond.instanceMethod r.1))) &&
  (r.2.2.2.2.2.2.1 || decide (r.1.name = "<init>") || decide (lw_tbl[q.2.2.1]? = some (Jvm.Cond.selects (am_RO r.2.2.2.2.1) r.1 r.1))) &&
  decide (lw_tbl[q.2.2.2]? = some (Jvm.Cond.initialized r.1.cls)) &&
  decide (r.1.cls = am_RO r.2.2.2.2.1 ∧ r.1.cls ≠ "java/lang/invoke/MethodHandle" ∧ r.1.cls ≠ "java/lang/invoke/VarHandle" ∧ (parseMethodDescriptor r.1.desc).map (fun d => d.parameters.length) = some (r.2.2.2.2.2.1 - cond r.2.2.2.2.2.2.1 0 1)) &&
  decide (r.2.2.1 ≤ 10) && decide (r.2.2.2.2.1 < 10) && decide (plainName r.1.cls = true)
set_option maxRecDepth 100000 in
theorem am_mok_0 : ((am_mw.zip am_all).drop 0 |>.take 20).all (fun x => am_mok x.1 x.2) = true := by decide +kernel
set_option maxRecDepth 100000 in
theorem am_mok_20 : ((am_mw.zip am_all).drop 20 |>.take 20).all (fun x => am_mok x.1 x.2) = true := by decide +kernel
set_option maxRecDepth 100000 in
theorem am_mok_40 : ((am_mw.zip am_all).drop 40 |>.take 20).all (fun x => am_mok x.1 x.2) = true := by decide +kernel
set_option maxRecDepth 100000 in
theorem am_mok_60 : ((am_mw.zip am_all).drop 60 |>.take 20).all (fun x => am_mok x.1 x.2) = true := by decide +kernel
set_option maxRecDepth 100000 in
theorem am_mok_80 : ((am_mw.zip am_all).drop 80 |>.take 20).all (fun x => am_mok x.1 x.2) = true := by decide +kernel
set_option maxRecDepth 100000 in
theorem am_mok_100 : ((am_mw.zip am_all).drop 100 |>.take 20).all (fun x => am_mok x.1 x.2) = true := by decide +kernel
set_option maxRecDepth 100000 in
theorem am_mok_120 : ((am_mw.zip am_all).drop 120 |>.take 20).all (fun x => am_mok x.1 x.2) = true := by decide +kernel
set_option maxRecDepth 100000 in
theorem am_mok_140 : ((am_mw.zip am_all).drop 140 |>.take 20).all (fun x => am_mok x.1 x.2) = true := by decide +kernel
set_option maxRecDepth 100000 in
theorem am_mok_160 : ((am_mw.zip am_all).drop 160 |>.take 20).all (fun x => am_mok x.1 x.2) = true := by decide +kernel
set_option maxRecDepth 100000 in
theorem am_mok_180 : ((am_mw.zip am_all).drop 180 |>.take 20).all (fun x => am_mok x.1 x.2) = true := by decide +kernel
set_option maxRecDepth 100000 in
theorem am_mok_200 : ((am_mw.zip am_all).drop 200 |>.take 1).all (fun x => am_mok x.1 x.2) = true := by decide +kernel
def am_il (i : Instr) (k : Nat) : Nat := match i with
  | .bipush _ => 2
  | .iload _ => 2
  | .istore _ => 2
  | .lload _ => 2
  | .lstore _ => 2
  | .ldc _ => 2
  | .newarray _ => 2
  | .sipush _ => 3
  | .ldc_w _ => 3
  | .ldc2_w _ => 3
  | .getfield _ => 3
  | .putfield _ => 3
  | .goto _ => 3
  | .ifCond _ _ => 3
  | .if_icmp _ _ => 3
  | .iinc _ _ => 3
  | .invokevirtual _ => 3
  | .invokestatic _ => 3
  | .invokespecial _ => 3
  | .new _ => 3
  | .anewarray _ => 3
  | .multianewarray _ _ => 4
  | .tableswitch _ _ _ _ => k
  | .lookupswitch _ _ => k
  | _ => 1
def am_k5 (o i a b : Nat) (q : Option (Nat × Nat × Nat × Nat × Nat)) : Bool := match q with
  | some q => Nat.beq q.1 o && Nat.beq q.2.1 i && Nat.beq q.2.2.1 a && Nat.beq q.2.2.2.1 b
  | none => false
def am_k4 (o i a : Nat) (q : Option (Nat × Nat × Nat × Nat)) : Bool := match q with
  | some q => Nat.beq q.1 o && Nat.beq q.2.1 i && Nat.beq q.2.2.1 a
  | none => false
def am_kI (o i : Nat) (v : Value) (q : Option (Nat × Nat × Value × Nat)) : Bool := match q with
  | some q => Nat.beq q.1 o && Nat.beq q.2.1 i && decide (q.2.2.1 = v) && (match v with | .int _ => true | _ => false)
  | none => false
def am_kL (o i : Nat) (v : Value) (q : Option (Nat × Nat × Value × Nat)) : Bool := match q with
  | some q => Nat.beq q.1 o && Nat.beq q.2.1 i && decide (q.2.2.1 = v) && (match v with | .long _ => true | _ => false)
  | none => false
def am_kS (o i z : Nat) (v : Value) (q : Option (Nat × Nat × String × Nat)) : Bool := match q with
  | some q => Nat.beq q.1 o && Nat.beq q.2.1 i && decide (v = .ref (9990 + z)) && Nat.ble z 3
  | none => false
def am_chka (o pc : Nat) (e : AE) : Bool := match e with
  | (ins, nx, a, b, z, v) => match ins with
    | .iconst n => decide (v = .int (Int32.ofInt n))
    | .bipush n => decide (v = .int (Int8.ofInt n).toInt32)
    | .sipush n => decide (v = .int (Int16.ofInt n).toInt32)
    | .lconst n => decide (v = .long (Int64.ofNat n))
    | .ldc i => am_kI o i v lkK[z]? || am_kS o i (z - 1000) v lkS[z - 1000]?
    | .ldc_w i => am_kI o i v lkK[z]?
    | .ldc2_w i => am_kL o i v lkK[z]?
    | .iinc _ n => decide (v = .int (Int32.ofInt n))
    | .goto off => decide ((pc : Int) + off = a)
    | .ifCond _ off => decide ((pc : Int) + off = a)
    | .if_icmp _ off => decide ((pc : Int) + off = a)
    | .getfield i => am_k5 o i a b lkF[z]?
    | .putfield i => am_k5 o i a b lkF[z]?
    | .invokevirtual i => am_k5 o i a b lkM[z]? && (Nat.beq b 0 || Nat.beq b 12 || Nat.beq b 13)
    | .invokestatic i => am_k5 o i a b lkM[z]? && (Nat.beq b 1 || Nat.beq b 3 || (Nat.ble 6 b && Nat.ble b 11))
    | .invokespecial i => am_k5 o i a b lkM[z]? && (Nat.beq b 2 || Nat.beq b 4 || Nat.beq b 5)
    | .new i => am_k4 o i a lkN[z]? && Nat.blt a 8
    | .anewarray i => am_k4 o i a lkN[z]? && (Nat.beq a 3 || Nat.beq a 4)
    | .multianewarray i k => am_k4 o i a lkN[z]? && Nat.beq a 99 && Nat.beq k 2
    | .newarray t => decide ((t = .int ∧ a = 2) ∨ (t = .boolean ∧ a = 3) ∨ (t = .long ∧ a = 4))
    | _ => true
def am_chk (bytes : ByteArray) (o pc : Nat) (e : AE) : Bool :=
  decide (decode bytes pc = .ok (e.1, am_il e.1 (e.2.1 - pc))) && Nat.beq e.2.1 (pc + am_il e.1 (e.2.1 - pc)) && am_chka o pc e
def am_chko (bytes : ByteArray) (o pc : Nat) (e : Option AE) : Bool := match e with
  | some e => am_chk bytes o pc e
  | none => true
theorem am_kall {bytes : ByteArray} {o N : Nat} {f : Nat → Option AE} {g : Nat → Option AE} (hg : ∀ pc, g pc = cond (Nat.blt pc N) (f pc) none) (h : ∀ pc, pc < N → am_chko bytes o pc (g pc) = true) (pc : Nat) (e : AE) (he : g pc = some e) : am_chk bytes o pc e = true := by
  have h1 : pc < N := by
    rw [hg] at he
    cases hb : Nat.blt pc N with
    | true => exact Nat.le_of_ble_eq_true hb
    | false => rw [hb] at he; cases he
  have h2 := h pc h1
  rw [he] at h2
  exact h2
set_option maxRecDepth 100000 in
theorem am_k_0 : ∀ pc e, am_c0 pc = some e → am_chk cX0_init 0 pc e = true := am_kall (N := 75) (fun _ => rfl) (by decide +kernel)
set_option maxRecDepth 100000 in
theorem am_k_1 : ∀ pc e, am_c1 pc = some e → am_chk cX0_renew 0 pc e = true := am_kall (N := 20) (fun _ => rfl) (by decide +kernel)
set_option maxRecDepth 100000 in
theorem am_k_2 : ∀ pc e, am_c2 pc = some e → am_chk cX0_cutByMarks 0 pc e = true := am_kall (N := 50) (fun _ => rfl) (by decide +kernel)
set_option maxRecDepth 100000 in
theorem am_k_3 : ∀ pc e, am_c3 pc = some e → am_chk cX0_lend 0 pc e = true := am_kall (N := 140) (fun _ => rfl) (by decide +kernel)
set_option maxRecDepth 100000 in
theorem am_k_4 : ∀ pc e, am_c4 pc = some e → am_chk cX0_lendTo 0 pc e = true := am_kall (N := 85) (fun _ => rfl) (by decide +kernel)
set_option maxRecDepth 100000 in
theorem am_k_5 : ∀ pc e, am_c5 pc = some e → am_chk cX0_placeSounds 0 pc e = true := am_kall (N := 89) (fun _ => rfl) (by decide +kernel)
set_option maxRecDepth 100000 in
theorem am_k_6 : ∀ pc e, am_c6 pc = some e → am_chk cX0_findHolds 0 pc e = true := am_kall (N := 93) (fun _ => rfl) (by decide +kernel)
set_option maxRecDepth 100000 in
theorem am_k_7 : ∀ pc e, am_c7 pc = some e → am_chk cX0_firstOf 0 pc e = true := am_kall (N := 26) (fun _ => rfl) (by decide +kernel)
set_option maxRecDepth 100000 in
theorem am_k_8 : ∀ pc e, am_c8 pc = some e → am_chk cX1_init 1 pc e = true := am_kall (N := 21) (fun _ => rfl) (by decide +kernel)
set_option maxRecDepth 100000 in
theorem am_k_9 : ∀ pc e, am_c9 pc = some e → am_chk cX1_renew 1 pc e = true := am_kall (N := 57) (fun _ => rfl) (by decide +kernel)
set_option maxRecDepth 100000 in
theorem am_k_10 : ∀ pc e, am_c10 pc = some e → am_chk cX1_pulledParts 1 pc e = true := am_kall (N := 123) (fun _ => rfl) (by decide +kernel)
set_option maxRecDepth 100000 in
theorem am_k_11 : ∀ pc e, am_c11 pc = some e → am_chk cX1_smoothParts 1 pc e = true := am_kall (N := 94) (fun _ => rfl) (by decide +kernel)
set_option maxRecDepth 100000 in
theorem am_k_12 : ∀ pc e, am_c12 pc = some e → am_chk cX1_jumpParts 1 pc e = true := am_kall (N := 53) (fun _ => rfl) (by decide +kernel)
set_option maxRecDepth 100000 in
theorem am_k_13 : ∀ pc e, am_c13 pc = some e → am_chk cX2_init 2 pc e = true := am_kall (N := 46) (fun _ => rfl) (by decide +kernel)
set_option maxRecDepth 100000 in
theorem am_k_14 : ∀ pc e, am_c14 pc = some e → am_chk cX2_add 2 pc e = true := am_kall (N := 37) (fun _ => rfl) (by decide +kernel)
set_option maxRecDepth 100000 in
theorem am_k_15 : ∀ pc e, am_c15 pc = some e → am_chk cX2_loseOldest 2 pc e = true := am_kall (N := 48) (fun _ => rfl) (by decide +kernel)
set_option maxRecDepth 100000 in
theorem am_k_16 : ∀ pc e, am_c16 pc = some e → am_chk cX2_takeLatest 2 pc e = true := am_kall (N := 31) (fun _ => rfl) (by decide +kernel)
set_option maxRecDepth 100000 in
theorem am_k_17 : ∀ pc e, am_c17 pc = some e → am_chk cX2_become 2 pc e = true := am_kall (N := 40) (fun _ => rfl) (by decide +kernel)
set_option maxRecDepth 100000 in
theorem am_k_18 : ∀ pc e, am_c18 pc = some e → am_chk cX3_init 3 pc e = true := am_kall (N := 28) (fun _ => rfl) (by decide +kernel)
set_option maxRecDepth 100000 in
theorem am_k_19 : ∀ pc e, am_c19 pc = some e → am_chk cX3_start 3 pc e = true := am_kall (N := 37) (fun _ => rfl) (by decide +kernel)
set_option maxRecDepth 100000 in
theorem am_k_20 : ∀ pc e, am_c20 pc = some e → am_chk cX3_holds 3 pc e = true := am_kall (N := 32) (fun _ => rfl) (by decide +kernel)
set_option maxRecDepth 100000 in
theorem am_k_21 : ∀ pc e, am_c21 pc = some e → am_chk cX3_put 3 pc e = true := am_kall (N := 78) (fun _ => rfl) (by decide +kernel)
set_option maxRecDepth 100000 in
theorem am_k_22 : ∀ pc e, am_c22 pc = some e → am_chk cX3_lookFrom 3 pc e = true := am_kall (N := 63) (fun _ => rfl) (by decide +kernel)
set_option maxRecDepth 100000 in
theorem am_k_23 : ∀ pc e, am_c23 pc = some e → am_chk cX4_init 4 pc e = true := am_kall (N := 173) (fun _ => rfl) (by decide +kernel)
set_option maxRecDepth 100000 in
theorem am_k_24 : ∀ pc e, am_c24 pc = some e → am_chk cX4_become 4 pc e = true := am_kall (N := 202) (fun _ => rfl) (by decide +kernel)
set_option maxRecDepth 100000 in
theorem am_k_25 : ∀ pc e, am_c25 pc = some e → am_chk cX4_extent 4 pc e = true := am_kall (N := 30) (fun _ => rfl) (by decide +kernel)
set_option maxRecDepth 100000 in
theorem am_k_26 : ∀ pc e, am_c26 pc = some e → am_chk cX4_isClosed 4 pc e = true := am_kall (N := 20) (fun _ => rfl) (by decide +kernel)
set_option maxRecDepth 100000 in
theorem am_k_27 : ∀ pc e, am_c27 pc = some e → am_chk cX4_startOf 4 pc e = true := am_kall (N := 26) (fun _ => rfl) (by decide +kernel)
set_option maxRecDepth 100000 in
theorem am_k_28 : ∀ pc e, am_c28 pc = some e → am_chk cX4_markOf 4 pc e = true := am_kall (N := 13) (fun _ => rfl) (by decide +kernel)
set_option maxRecDepth 100000 in
theorem am_k_29 : ∀ pc e, am_c29 pc = some e → am_chk cX4_markBy 4 pc e = true := am_kall (N := 17) (fun _ => rfl) (by decide +kernel)
set_option maxRecDepth 100000 in
theorem am_k_30 : ∀ pc e, am_c30 pc = some e → am_chk cX4_tellShape 4 pc e = true := am_kall (N := 90) (fun _ => rfl) (by decide +kernel)
set_option maxRecDepth 100000 in
theorem am_k_31 : ∀ pc e, am_c31 pc = some e → am_chk cX4_tellSign 4 pc e = true := am_kall (N := 89) (fun _ => rfl) (by decide +kernel)
set_option maxRecDepth 100000 in
theorem am_k_32 : ∀ pc e, am_c32 pc = some e → am_chk cX4_addSound 4 pc e = true := am_kall (N := 90) (fun _ => rfl) (by decide +kernel)
set_option maxRecDepth 100000 in
theorem am_k_33 : ∀ pc e, am_c33 pc = some e → am_chk cX4_removeSound 4 pc e = true := am_kall (N := 75) (fun _ => rfl) (by decide +kernel)
set_option maxRecDepth 100000 in
theorem am_k_34 : ∀ pc e, am_c34 pc = some e → am_chk cX4_tellFrame 4 pc e = true := am_kall (N := 86) (fun _ => rfl) (by decide +kernel)
set_option maxRecDepth 100000 in
theorem am_k_35 : ∀ pc e, am_c35 pc = some e → am_chk cX4_tellWindow 4 pc e = true := am_kall (N := 34) (fun _ => rfl) (by decide +kernel)
set_option maxRecDepth 100000 in
theorem am_k_36 : ∀ pc e, am_c36 pc = some e → am_chk cX4_tellLine 4 pc e = true := am_kall (N := 73) (fun _ => rfl) (by decide +kernel)
set_option maxRecDepth 100000 in
theorem am_k_37 : ∀ pc e, am_c37 pc = some e → am_chk cX4_addWord 4 pc e = true := am_kall (N := 75) (fun _ => rfl) (by decide +kernel)
set_option maxRecDepth 100000 in
theorem am_k_38 : ∀ pc e, am_c38 pc = some e → am_chk cX4_hasWord 4 pc e = true := am_kall (N := 44) (fun _ => rfl) (by decide +kernel)
set_option maxRecDepth 100000 in
theorem am_k_39 : ∀ pc e, am_c39 pc = some e → am_chk cX4_startsLike 4 pc e = true := am_kall (N := 26) (fun _ => rfl) (by decide +kernel)
set_option maxRecDepth 100000 in
theorem am_k_40 : ∀ pc e, am_c40 pc = some e → am_chk cX4_removeWord 4 pc e = true := am_kall (N := 96) (fun _ => rfl) (by decide +kernel)
set_option maxRecDepth 100000 in
theorem am_k_41 : ∀ pc e, am_c41 pc = some e → am_chk cX4_lookOf 4 pc e = true := am_kall (N := 40) (fun _ => rfl) (by decide +kernel)
set_option maxRecDepth 100000 in
theorem am_k_42 : ∀ pc e, am_c42 pc = some e → am_chk cX4_wordsLooking 4 pc e = true := am_kall (N := 35) (fun _ => rfl) (by decide +kernel)
set_option maxRecDepth 100000 in
theorem am_k_43 : ∀ pc e, am_c43 pc = some e → am_chk cX4_guessedWeight 4 pc e = true := am_kall (N := 37) (fun _ => rfl) (by decide +kernel)
set_option maxRecDepth 100000 in
theorem am_k_44 : ∀ pc e, am_c44 pc = some e → am_chk cX4_isGuessed 4 pc e = true := am_kall (N := 82) (fun _ => rfl) (by decide +kernel)
set_option maxRecDepth 100000 in
theorem am_k_45 : ∀ pc e, am_c45 pc = some e → am_chk cX4_allWeight 4 pc e = true := am_kall (N := 29) (fun _ => rfl) (by decide +kernel)
set_option maxRecDepth 100000 in
theorem am_k_46 : ∀ pc e, am_c46 pc = some e → am_chk cX4_driftOnce 4 pc e = true := am_kall (N := 182) (fun _ => rfl) (by decide +kernel)
set_option maxRecDepth 100000 in
theorem am_k_47 : ∀ pc e, am_c47 pc = some e → am_chk cX5_init 5 pc e = true := am_kall (N := 64) (fun _ => rfl) (by decide +kernel)
set_option maxRecDepth 100000 in
theorem am_k_48 : ∀ pc e, am_c48 pc = some e → am_chk cX5_add 5 pc e = true := am_kall (N := 37) (fun _ => rfl) (by decide +kernel)
set_option maxRecDepth 100000 in
theorem am_k_49 : ∀ pc e, am_c49 pc = some e → am_chk cX5_clear 5 pc e = true := am_kall (N := 6) (fun _ => rfl) (by decide +kernel)
set_option maxRecDepth 100000 in
theorem am_k_50 : ∀ pc e, am_c50 pc = some e → am_chk cX5_parse 5 pc e = true := am_kall (N := 110) (fun _ => rfl) (by decide +kernel)
set_option maxRecDepth 100000 in
theorem am_k_51 : ∀ pc e, am_c51 pc = some e → am_chk cX5_parseName 5 pc e = true := am_kall (N := 66) (fun _ => rfl) (by decide +kernel)
set_option maxRecDepth 100000 in
theorem am_k_52 : ∀ pc e, am_c52 pc = some e → am_chk cX5_kindFrom 5 pc e = true := am_kall (N := 52) (fun _ => rfl) (by decide +kernel)
set_option maxRecDepth 100000 in
theorem am_k_53 : ∀ pc e, am_c53 pc = some e → am_chk cX5_isName 5 pc e = true := am_kall (N := 51) (fun _ => rfl) (by decide +kernel)
set_option maxRecDepth 100000 in
theorem am_k_54 : ∀ pc e, am_c54 pc = some e → am_chk cX5_parseSounds 5 pc e = true := am_kall (N := 45) (fun _ => rfl) (by decide +kernel)
set_option maxRecDepth 100000 in
theorem am_k_55 : ∀ pc e, am_c55 pc = some e → am_chk cX5_parseSound 5 pc e = true := am_kall (N := 88) (fun _ => rfl) (by decide +kernel)
set_option maxRecDepth 100000 in
theorem am_k_56 : ∀ pc e, am_c56 pc = some e → am_chk cX5_takesComma 5 pc e = true := am_kall (N := 29) (fun _ => rfl) (by decide +kernel)
set_option maxRecDepth 100000 in
theorem am_k_57 : ∀ pc e, am_c57 pc = some e → am_chk cX5_parseWord 5 pc e = true := am_kall (N := 101) (fun _ => rfl) (by decide +kernel)
set_option maxRecDepth 100000 in
theorem am_k_58 : ∀ pc e, am_c58 pc = some e → am_chk cX5_parseFrame 5 pc e = true := am_kall (N := 25) (fun _ => rfl) (by decide +kernel)
set_option maxRecDepth 100000 in
theorem am_k_59 : ∀ pc e, am_c59 pc = some e → am_chk cX5_take 5 pc e = true := am_kall (N := 35) (fun _ => rfl) (by decide +kernel)
set_option maxRecDepth 100000 in
theorem am_k_60 : ∀ pc e, am_c60 pc = some e → am_chk cX5_figure 5 pc e = true := am_kall (N := 54) (fun _ => rfl) (by decide +kernel)
set_option maxRecDepth 100000 in
theorem am_k_61 : ∀ pc e, am_c61 pc = some e → am_chk cX5_number 5 pc e = true := am_kall (N := 71) (fun _ => rfl) (by decide +kernel)
set_option maxRecDepth 100000 in
theorem am_k_62 : ∀ pc e, am_c62 pc = some e → am_chk cX5_skipBlanks 5 pc e = true := am_kall (N := 39) (fun _ => rfl) (by decide +kernel)
set_option maxRecDepth 100000 in
theorem am_k_63 : ∀ pc e, am_c63 pc = some e → am_chk cX5_stands 5 pc e = true := am_kall (N := 43) (fun _ => rfl) (by decide +kernel)
set_option maxRecDepth 100000 in
theorem am_k_64 : ∀ pc e, am_c64 pc = some e → am_chk cX5_fail 5 pc e = true := am_kall (N := 13) (fun _ => rfl) (by decide +kernel)
set_option maxRecDepth 100000 in
theorem am_k_65 : ∀ pc e, am_c65 pc = some e → am_chk cX6_init 6 pc e = true := am_kall (N := 132) (fun _ => rfl) (by decide +kernel)
set_option maxRecDepth 100000 in
theorem am_k_66 : ∀ pc e, am_c66 pc = some e → am_chk cX6_shape 6 pc e = true := am_kall (N := 26) (fun _ => rfl) (by decide +kernel)
set_option maxRecDepth 100000 in
theorem am_k_67 : ∀ pc e, am_c67 pc = some e → am_chk cX6_sign 6 pc e = true := am_kall (N := 26) (fun _ => rfl) (by decide +kernel)
set_option maxRecDepth 100000 in
theorem am_k_68 : ∀ pc e, am_c68 pc = some e → am_chk cX6_sound 6 pc e = true := am_kall (N := 25) (fun _ => rfl) (by decide +kernel)
set_option maxRecDepth 100000 in
theorem am_k_69 : ∀ pc e, am_c69 pc = some e → am_chk cX6_out 6 pc e = true := am_kall (N := 24) (fun _ => rfl) (by decide +kernel)
set_option maxRecDepth 100000 in
theorem am_k_70 : ∀ pc e, am_c70 pc = some e → am_chk cX6_frame 6 pc e = true := am_kall (N := 25) (fun _ => rfl) (by decide +kernel)
set_option maxRecDepth 100000 in
theorem am_k_71 : ∀ pc e, am_c71 pc = some e → am_chk cX6_window 6 pc e = true := am_kall (N := 24) (fun _ => rfl) (by decide +kernel)
set_option maxRecDepth 100000 in
theorem am_k_72 : ∀ pc e, am_c72 pc = some e → am_chk cX6_told 6 pc e = true := am_kall (N := 107) (fun _ => rfl) (by decide +kernel)
set_option maxRecDepth 100000 in
theorem am_k_73 : ∀ pc e, am_c73 pc = some e → am_chk cX6_sounds 6 pc e = true := am_kall (N := 142) (fun _ => rfl) (by decide +kernel)
set_option maxRecDepth 100000 in
theorem am_k_74 : ∀ pc e, am_c74 pc = some e → am_chk cX6_at 6 pc e = true := am_kall (N := 78) (fun _ => rfl) (by decide +kernel)
set_option maxRecDepth 100000 in
theorem am_k_75 : ∀ pc e, am_c75 pc = some e → am_chk cX6_count 6 pc e = true := am_kall (N := 184) (fun _ => rfl) (by decide +kernel)
set_option maxRecDepth 100000 in
theorem am_k_76 : ∀ pc e, am_c76 pc = some e → am_chk cX6_pulled 6 pc e = true := am_kall (N := 51) (fun _ => rfl) (by decide +kernel)
set_option maxRecDepth 100000 in
theorem am_k_77 : ∀ pc e, am_c77 pc = some e → am_chk cX6_smooth 6 pc e = true := am_kall (N := 85) (fun _ => rfl) (by decide +kernel)
set_option maxRecDepth 100000 in
theorem am_k_78 : ∀ pc e, am_c78 pc = some e → am_chk cX6_jump 6 pc e = true := am_kall (N := 67) (fun _ => rfl) (by decide +kernel)
set_option maxRecDepth 100000 in
theorem am_k_79 : ∀ pc e, am_c79 pc = some e → am_chk cX6_calm 6 pc e = true := am_kall (N := 82) (fun _ => rfl) (by decide +kernel)
set_option maxRecDepth 100000 in
theorem am_k_80 : ∀ pc e, am_c80 pc = some e → am_chk cX6_off 6 pc e = true := am_kall (N := 83) (fun _ => rfl) (by decide +kernel)
set_option maxRecDepth 100000 in
theorem am_k_81 : ∀ pc e, am_c81 pc = some e → am_chk cX6_forget 6 pc e = true := am_kall (N := 24) (fun _ => rfl) (by decide +kernel)
set_option maxRecDepth 100000 in
theorem am_k_82 : ∀ pc e, am_c82 pc = some e → am_chk cX6_word 6 pc e = true := am_kall (N := 128) (fun _ => rfl) (by decide +kernel)
set_option maxRecDepth 100000 in
theorem am_k_83 : ∀ pc e, am_c83 pc = some e → am_chk cX6_letter 6 pc e = true := am_kall (N := 53) (fun _ => rfl) (by decide +kernel)
set_option maxRecDepth 100000 in
theorem am_k_84 : ∀ pc e, am_c84 pc = some e → am_chk cX6_guess 6 pc e = true := am_kall (N := 44) (fun _ => rfl) (by decide +kernel)
set_option maxRecDepth 100000 in
theorem am_k_85 : ∀ pc e, am_c85 pc = some e → am_chk cX6_type 6 pc e = true := am_kall (N := 22) (fun _ => rfl) (by decide +kernel)
set_option maxRecDepth 100000 in
theorem am_k_86 : ∀ pc e, am_c86 pc = some e → am_chk cX6_read 6 pc e = true := am_kall (N := 55) (fun _ => rfl) (by decide +kernel)
set_option maxRecDepth 100000 in
theorem am_k_87 : ∀ pc e, am_c87 pc = some e → am_chk cX6_drift 6 pc e = true := am_kall (N := 51) (fun _ => rfl) (by decide +kernel)
set_option maxRecDepth 100000 in
theorem am_k_88 : ∀ pc e, am_c88 pc = some e → am_chk cX6_undo 6 pc e = true := am_kall (N := 32) (fun _ => rfl) (by decide +kernel)
set_option maxRecDepth 100000 in
theorem am_k_89 : ∀ pc e, am_c89 pc = some e → am_chk cX6_seed 6 pc e = true := am_kall (N := 24) (fun _ => rfl) (by decide +kernel)
set_option maxRecDepth 100000 in
theorem am_k_90 : ∀ pc e, am_c90 pc = some e → am_chk cX6_image 6 pc e = true := am_kall (N := 29) (fun _ => rfl) (by decide +kernel)
set_option maxRecDepth 100000 in
theorem am_k_91 : ∀ pc e, am_c91 pc = some e → am_chk cX6_restore 6 pc e = true := am_kall (N := 34) (fun _ => rfl) (by decide +kernel)
set_option maxRecDepth 100000 in
theorem am_k_92 : ∀ pc e, am_c92 pc = some e → am_chk cX6_seen 6 pc e = true := am_kall (N := 81) (fun _ => rfl) (by decide +kernel)
set_option maxRecDepth 100000 in
theorem am_k_93 : ∀ pc e, am_c93 pc = some e → am_chk cX6_film 6 pc e = true := am_kall (N := 103) (fun _ => rfl) (by decide +kernel)
set_option maxRecDepth 100000 in
theorem am_k_94 : ∀ pc e, am_c94 pc = some e → am_chk cX6_sheet 6 pc e = true := am_kall (N := 44) (fun _ => rfl) (by decide +kernel)
set_option maxRecDepth 100000 in
theorem am_k_95 : ∀ pc e, am_c95 pc = some e → am_chk cX6_drop 6 pc e = true := am_kall (N := 44) (fun _ => rfl) (by decide +kernel)
set_option maxRecDepth 100000 in
theorem am_k_96 : ∀ pc e, am_c96 pc = some e → am_chk cX6_item 6 pc e = true := am_kall (N := 47) (fun _ => rfl) (by decide +kernel)
set_option maxRecDepth 100000 in
theorem am_k_97 : ∀ pc e, am_c97 pc = some e → am_chk cX6_copy 6 pc e = true := am_kall (N := 130) (fun _ => rfl) (by decide +kernel)
set_option maxRecDepth 100000 in
theorem am_k_98 : ∀ pc e, am_c98 pc = some e → am_chk cX6_known 6 pc e = true := am_kall (N := 17) (fun _ => rfl) (by decide +kernel)
set_option maxRecDepth 100000 in
theorem am_k_99 : ∀ pc e, am_c99 pc = some e → am_chk cX6_tellText 6 pc e = true := am_kall (N := 133) (fun _ => rfl) (by decide +kernel)
set_option maxRecDepth 100000 in
theorem am_k_100 : ∀ pc e, am_c100 pc = some e → am_chk cX6_refusedRow 6 pc e = true := am_kall (N := 53) (fun _ => rfl) (by decide +kernel)
set_option maxRecDepth 100000 in
theorem am_k_101 : ∀ pc e, am_c101 pc = some e → am_chk cX6_within 6 pc e = true := am_kall (N := 16) (fun _ => rfl) (by decide +kernel)
set_option maxRecDepth 100000 in
theorem am_k_102 : ∀ pc e, am_c102 pc = some e → am_chk cX6_isAxis 6 pc e = true := am_kall (N := 15) (fun _ => rfl) (by decide +kernel)
set_option maxRecDepth 100000 in
theorem am_k_103 : ∀ pc e, am_c103 pc = some e → am_chk cX6_isPart 6 pc e = true := am_kall (N := 15) (fun _ => rfl) (by decide +kernel)
set_option maxRecDepth 100000 in
theorem am_k_104 : ∀ pc e, am_c104 pc = some e → am_chk cX6_isSheet 6 pc e = true := am_kall (N := 7) (fun _ => rfl) (by decide +kernel)
set_option maxRecDepth 100000 in
theorem am_k_105 : ∀ pc e, am_c105 pc = some e → am_chk cX6_fraction 6 pc e = true := am_kall (N := 19) (fun _ => rfl) (by decide +kernel)
set_option maxRecDepth 100000 in
theorem am_k_106 : ∀ pc e, am_c106 pc = some e → am_chk cX6_quotient 6 pc e = true := am_kall (N := 14) (fun _ => rfl) (by decide +kernel)
set_option maxRecDepth 100000 in
theorem am_k_107 : ∀ pc e, am_c107 pc = some e → am_chk cX6_commonDivisor 6 pc e = true := am_kall (N := 34) (fun _ => rfl) (by decide +kernel)
set_option maxRecDepth 100000 in
theorem am_k_108 : ∀ pc e, am_c108 pc = some e → am_chk cX6_lookAnd 6 pc e = true := am_kall (N := 35) (fun _ => rfl) (by decide +kernel)
set_option maxRecDepth 100000 in
theorem am_k_109 : ∀ pc e, am_c109 pc = some e → am_chk cX6_lookLength 6 pc e = true := am_kall (N := 27) (fun _ => rfl) (by decide +kernel)
set_option maxRecDepth 100000 in
theorem am_k_110 : ∀ pc e, am_c110 pc = some e → am_chk cX6_leastOf 6 pc e = true := am_kall (N := 27) (fun _ => rfl) (by decide +kernel)
set_option maxRecDepth 100000 in
theorem am_k_111 : ∀ pc e, am_c111 pc = some e → am_chk cX7_init 7 pc e = true := am_kall (N := 255) (fun _ => rfl) (by decide +kernel)
set_option maxRecDepth 100000 in
theorem am_k_112 : ∀ pc e, am_c112 pc = some e → am_chk cX7_in 7 pc e = true := am_kall (N := 19) (fun _ => rfl) (by decide +kernel)
set_option maxRecDepth 100000 in
theorem am_k_113 : ∀ pc e, am_c113 pc = some e → am_chk cX7_divisor 7 pc e = true := am_kall (N := 34) (fun _ => rfl) (by decide +kernel)
set_option maxRecDepth 100000 in
theorem am_k_114 : ∀ pc e, am_c114 pc = some e → am_chk cX7_told 7 pc e = true := am_kall (N := 24) (fun _ => rfl) (by decide +kernel)
set_option maxRecDepth 100000 in
theorem am_k_115 : ∀ pc e, am_c115 pc = some e → am_chk cX7_isSound 7 pc e = true := am_kall (N := 16) (fun _ => rfl) (by decide +kernel)
set_option maxRecDepth 100000 in
theorem am_k_116 : ∀ pc e, am_c116 pc = some e → am_chk cX7_shapeOf 7 pc e = true := am_kall (N := 18) (fun _ => rfl) (by decide +kernel)
set_option maxRecDepth 100000 in
theorem am_k_117 : ∀ pc e, am_c117 pc = some e → am_chk cX7_isClosed 7 pc e = true := am_kall (N := 22) (fun _ => rfl) (by decide +kernel)
set_option maxRecDepth 100000 in
theorem am_k_118 : ∀ pc e, am_c118 pc = some e → am_chk cX7_startOf 7 pc e = true := am_kall (N := 29) (fun _ => rfl) (by decide +kernel)
set_option maxRecDepth 100000 in
theorem am_k_119 : ∀ pc e, am_c119 pc = some e → am_chk cX7_mark 7 pc e = true := am_kall (N := 12) (fun _ => rfl) (by decide +kernel)
set_option maxRecDepth 100000 in
theorem am_k_120 : ∀ pc e, am_c120 pc = some e → am_chk cX7_markOf 7 pc e = true := am_kall (N := 21) (fun _ => rfl) (by decide +kernel)
set_option maxRecDepth 100000 in
theorem am_k_121 : ∀ pc e, am_c121 pc = some e → am_chk cX7_lays 7 pc e = true := am_kall (N := 233) (fun _ => rfl) (by decide +kernel)
set_option maxRecDepth 100000 in
theorem am_k_122 : ∀ pc e, am_c122 pc = some e → am_chk cX7_frameMany 7 pc e = true := am_kall (N := 11) (fun _ => rfl) (by decide +kernel)
set_option maxRecDepth 100000 in
theorem am_k_123 : ∀ pc e, am_c123 pc = some e → am_chk cX7_firstOf 7 pc e = true := am_kall (N := 26) (fun _ => rfl) (by decide +kernel)
set_option maxRecDepth 100000 in
theorem am_k_124 : ∀ pc e, am_c124 pc = some e → am_chk cX7_soundAt 7 pc e = true := am_kall (N := 31) (fun _ => rfl) (by decide +kernel)
set_option maxRecDepth 100000 in
theorem am_k_125 : ∀ pc e, am_c125 pc = some e → am_chk cX7_told_ 7 pc e = true := am_kall (N := 112) (fun _ => rfl) (by decide +kernel)
set_option maxRecDepth 100000 in
theorem am_k_126 : ∀ pc e, am_c126 pc = some e → am_chk cX7_sounds 7 pc e = true := am_kall (N := 119) (fun _ => rfl) (by decide +kernel)
set_option maxRecDepth 100000 in
theorem am_k_127 : ∀ pc e, am_c127 pc = some e → am_chk cX7_at 7 pc e = true := am_kall (N := 52) (fun _ => rfl) (by decide +kernel)
set_option maxRecDepth 100000 in
theorem am_k_128 : ∀ pc e, am_c128 pc = some e → am_chk cX7_holds 7 pc e = true := am_kall (N := 112) (fun _ => rfl) (by decide +kernel)
set_option maxRecDepth 100000 in
theorem am_k_129 : ∀ pc e, am_c129 pc = some e → am_chk cX7_without 7 pc e = true := am_kall (N := 52) (fun _ => rfl) (by decide +kernel)
set_option maxRecDepth 100000 in
theorem am_k_130 : ∀ pc e, am_c130 pc = some e → am_chk cX7_count 7 pc e = true := am_kall (N := 135) (fun _ => rfl) (by decide +kernel)
set_option maxRecDepth 100000 in
theorem am_k_131 : ∀ pc e, am_c131 pc = some e → am_chk cX7_valueOf 7 pc e = true := am_kall (N := 23) (fun _ => rfl) (by decide +kernel)
set_option maxRecDepth 100000 in
theorem am_k_132 : ∀ pc e, am_c132 pc = some e → am_chk cX7_pullOf 7 pc e = true := am_kall (N := 18) (fun _ => rfl) (by decide +kernel)
set_option maxRecDepth 100000 in
theorem am_k_133 : ∀ pc e, am_c133 pc = some e → am_chk cX7_pulls 7 pc e = true := am_kall (N := 102) (fun _ => rfl) (by decide +kernel)
set_option maxRecDepth 100000 in
theorem am_k_134 : ∀ pc e, am_c134 pc = some e → am_chk cX7_pulled 7 pc e = true := am_kall (N := 52) (fun _ => rfl) (by decide +kernel)
set_option maxRecDepth 100000 in
theorem am_k_135 : ∀ pc e, am_c135 pc = some e → am_chk cX7_layParts 7 pc e = true := am_kall (N := 46) (fun _ => rfl) (by decide +kernel)
set_option maxRecDepth 100000 in
theorem am_k_136 : ∀ pc e, am_c136 pc = some e → am_chk cX7_smoothAt 7 pc e = true := am_kall (N := 108) (fun _ => rfl) (by decide +kernel)
set_option maxRecDepth 100000 in
theorem am_k_137 : ∀ pc e, am_c137 pc = some e → am_chk cX7_smooth 7 pc e = true := am_kall (N := 69) (fun _ => rfl) (by decide +kernel)
set_option maxRecDepth 100000 in
theorem am_k_138 : ∀ pc e, am_c138 pc = some e → am_chk cX7_jumpBy 7 pc e = true := am_kall (N := 83) (fun _ => rfl) (by decide +kernel)
set_option maxRecDepth 100000 in
theorem am_k_139 : ∀ pc e, am_c139 pc = some e → am_chk cX7_jump 7 pc e = true := am_kall (N := 43) (fun _ => rfl) (by decide +kernel)
set_option maxRecDepth 100000 in
theorem am_k_140 : ∀ pc e, am_c140 pc = some e → am_chk cX7_calm 7 pc e = true := am_kall (N := 62) (fun _ => rfl) (by decide +kernel)
set_option maxRecDepth 100000 in
theorem am_k_141 : ∀ pc e, am_c141 pc = some e → am_chk cX7_off 7 pc e = true := am_kall (N := 71) (fun _ => rfl) (by decide +kernel)
set_option maxRecDepth 100000 in
theorem am_k_142 : ∀ pc e, am_c142 pc = some e → am_chk cX7_isWord 7 pc e = true := am_kall (N := 16) (fun _ => rfl) (by decide +kernel)
set_option maxRecDepth 100000 in
theorem am_k_143 : ∀ pc e, am_c143 pc = some e → am_chk cX7_weightOf 7 pc e = true := am_kall (N := 13) (fun _ => rfl) (by decide +kernel)
set_option maxRecDepth 100000 in
theorem am_k_144 : ∀ pc e, am_c144 pc = some e → am_chk cX7_sizeOf 7 pc e = true := am_kall (N := 15) (fun _ => rfl) (by decide +kernel)
set_option maxRecDepth 100000 in
theorem am_k_145 : ∀ pc e, am_c145 pc = some e → am_chk cX7_letterOf 7 pc e = true := am_kall (N := 17) (fun _ => rfl) (by decide +kernel)
set_option maxRecDepth 100000 in
theorem am_k_146 : ∀ pc e, am_c146 pc = some e → am_chk cX7_more 7 pc e = true := am_kall (N := 23) (fun _ => rfl) (by decide +kernel)
set_option maxRecDepth 100000 in
theorem am_k_147 : ∀ pc e, am_c147 pc = some e → am_chk cX7_lookOf 7 pc e = true := am_kall (N := 40) (fun _ => rfl) (by decide +kernel)
set_option maxRecDepth 100000 in
theorem am_k_148 : ∀ pc e, am_c148 pc = some e → am_chk cX7_figures 7 pc e = true := am_kall (N := 21) (fun _ => rfl) (by decide +kernel)
set_option maxRecDepth 100000 in
theorem am_k_149 : ∀ pc e, am_c149 pc = some e → am_chk cX7_alike 7 pc e = true := am_kall (N := 45) (fun _ => rfl) (by decide +kernel)
set_option maxRecDepth 100000 in
theorem am_k_150 : ∀ pc e, am_c150 pc = some e → am_chk cX7_least 7 pc e = true := am_kall (N := 18) (fun _ => rfl) (by decide +kernel)
set_option maxRecDepth 100000 in
theorem am_k_151 : ∀ pc e, am_c151 pc = some e → am_chk cX7_sizeOfSet 7 pc e = true := am_kall (N := 22) (fun _ => rfl) (by decide +kernel)
set_option maxRecDepth 100000 in
theorem am_k_152 : ∀ pc e, am_c152 pc = some e → am_chk cX7_word 7 pc e = true := am_kall (N := 85) (fun _ => rfl) (by decide +kernel)
set_option maxRecDepth 100000 in
theorem am_k_153 : ∀ pc e, am_c153 pc = some e → am_chk cX7_letter 7 pc e = true := am_kall (N := 35) (fun _ => rfl) (by decide +kernel)
set_option maxRecDepth 100000 in
theorem am_k_154 : ∀ pc e, am_c154 pc = some e → am_chk cX7_guess 7 pc e = true := am_kall (N := 160) (fun _ => rfl) (by decide +kernel)
set_option maxRecDepth 100000 in
theorem am_k_155 : ∀ pc e, am_c155 pc = some e → am_chk cX7_begins 7 pc e = true := am_kall (N := 28) (fun _ => rfl) (by decide +kernel)
set_option maxRecDepth 100000 in
theorem am_k_156 : ∀ pc e, am_c156 pc = some e → am_chk cX7_notes 7 pc e = true := am_kall (N := 92) (fun _ => rfl) (by decide +kernel)
set_option maxRecDepth 100000 in
theorem am_k_157 : ∀ pc e, am_c157 pc = some e → am_chk cX7_done 7 pc e = true := am_kall (N := 10) (fun _ => rfl) (by decide +kernel)
set_option maxRecDepth 100000 in
theorem am_k_158 : ∀ pc e, am_c158 pc = some e → am_chk cX7_shapes 7 pc e = true := am_kall (N := 101) (fun _ => rfl) (by decide +kernel)
set_option maxRecDepth 100000 in
theorem am_k_159 : ∀ pc e, am_c159 pc = some e → am_chk cX7_signs 7 pc e = true := am_kall (N := 101) (fun _ => rfl) (by decide +kernel)
set_option maxRecDepth 100000 in
theorem am_k_160 : ∀ pc e, am_c160 pc = some e → am_chk cX7_comes 7 pc e = true := am_kall (N := 101) (fun _ => rfl) (by decide +kernel)
set_option maxRecDepth 100000 in
theorem am_k_161 : ∀ pc e, am_c161 pc = some e → am_chk cX7_goes 7 pc e = true := am_kall (N := 85) (fun _ => rfl) (by decide +kernel)
set_option maxRecDepth 100000 in
theorem am_k_162 : ∀ pc e, am_c162 pc = some e → am_chk cX7_framed 7 pc e = true := am_kall (N := 95) (fun _ => rfl) (by decide +kernel)
set_option maxRecDepth 100000 in
theorem am_k_163 : ∀ pc e, am_c163 pc = some e → am_chk cX7_windows 7 pc e = true := am_kall (N := 40) (fun _ => rfl) (by decide +kernel)
set_option maxRecDepth 100000 in
theorem am_k_164 : ∀ pc e, am_c164 pc = some e → am_chk cX7_shape 7 pc e = true := am_kall (N := 16) (fun _ => rfl) (by decide +kernel)
set_option maxRecDepth 100000 in
theorem am_k_165 : ∀ pc e, am_c165 pc = some e → am_chk cX7_sign 7 pc e = true := am_kall (N := 16) (fun _ => rfl) (by decide +kernel)
set_option maxRecDepth 100000 in
theorem am_k_166 : ∀ pc e, am_c166 pc = some e → am_chk cX7_sound 7 pc e = true := am_kall (N := 15) (fun _ => rfl) (by decide +kernel)
set_option maxRecDepth 100000 in
theorem am_k_167 : ∀ pc e, am_c167 pc = some e → am_chk cX7_out 7 pc e = true := am_kall (N := 14) (fun _ => rfl) (by decide +kernel)
set_option maxRecDepth 100000 in
theorem am_k_168 : ∀ pc e, am_c168 pc = some e → am_chk cX7_frame 7 pc e = true := am_kall (N := 15) (fun _ => rfl) (by decide +kernel)
set_option maxRecDepth 100000 in
theorem am_k_169 : ∀ pc e, am_c169 pc = some e → am_chk cX7_window 7 pc e = true := am_kall (N := 14) (fun _ => rfl) (by decide +kernel)
set_option maxRecDepth 100000 in
theorem am_k_170 : ∀ pc e, am_c170 pc = some e → am_chk cX7_forget 7 pc e = true := am_kall (N := 80) (fun _ => rfl) (by decide +kernel)
set_option maxRecDepth 100000 in
theorem am_k_171 : ∀ pc e, am_c171 pc = some e → am_chk cX7_type 7 pc e = true := am_kall (N := 53) (fun _ => rfl) (by decide +kernel)
set_option maxRecDepth 100000 in
theorem am_k_172 : ∀ pc e, am_c172 pc = some e → am_chk cX7_here 7 pc e = true := am_kall (N := 43) (fun _ => rfl) (by decide +kernel)
set_option maxRecDepth 100000 in
theorem am_k_173 : ∀ pc e, am_c173 pc = some e → am_chk cX7_raw 7 pc e = true := am_kall (N := 25) (fun _ => rfl) (by decide +kernel)
set_option maxRecDepth 100000 in
theorem am_k_174 : ∀ pc e, am_c174 pc = some e → am_chk cX7_must 7 pc e = true := am_kall (N := 42) (fun _ => rfl) (by decide +kernel)
set_option maxRecDepth 100000 in
theorem am_k_175 : ∀ pc e, am_c175 pc = some e → am_chk cX7_figure 7 pc e = true := am_kall (N := 28) (fun _ => rfl) (by decide +kernel)
set_option maxRecDepth 100000 in
theorem am_k_176 : ∀ pc e, am_c176 pc = some e → am_chk cX7_number 7 pc e = true := am_kall (N := 119) (fun _ => rfl) (by decide +kernel)
set_option maxRecDepth 100000 in
theorem am_k_177 : ∀ pc e, am_c177 pc = some e → am_chk cX7_mustSign 7 pc e = true := am_kall (N := 18) (fun _ => rfl) (by decide +kernel)
set_option maxRecDepth 100000 in
theorem am_k_178 : ∀ pc e, am_c178 pc = some e → am_chk cX7_readSay 7 pc e = true := am_kall (N := 145) (fun _ => rfl) (by decide +kernel)
set_option maxRecDepth 100000 in
theorem am_k_179 : ∀ pc e, am_c179 pc = some e → am_chk cX7_readWord 7 pc e = true := am_kall (N := 147) (fun _ => rfl) (by decide +kernel)
set_option maxRecDepth 100000 in
theorem am_k_180 : ∀ pc e, am_c180 pc = some e → am_chk cX7_name 7 pc e = true := am_kall (N := 68) (fun _ => rfl) (by decide +kernel)
set_option maxRecDepth 100000 in
theorem am_k_181 : ∀ pc e, am_c181 pc = some e → am_chk cX7_saysAll 7 pc e = true := am_kall (N := 122) (fun _ => rfl) (by decide +kernel)
set_option maxRecDepth 100000 in
theorem am_k_182 : ∀ pc e, am_c182 pc = some e → am_chk cX7_isThere 7 pc e = true := am_kall (N := 61) (fun _ => rfl) (by decide +kernel)
set_option maxRecDepth 100000 in
theorem am_k_183 : ∀ pc e, am_c183 pc = some e → am_chk cX7_wordMore 7 pc e = true := am_kall (N := 134) (fun _ => rfl) (by decide +kernel)
set_option maxRecDepth 100000 in
theorem am_k_184 : ∀ pc e, am_c184 pc = some e → am_chk cX7_kindOf 7 pc e = true := am_kall (N := 65) (fun _ => rfl) (by decide +kernel)
set_option maxRecDepth 100000 in
theorem am_k_185 : ∀ pc e, am_c185 pc = some e → am_chk cX7_read 7 pc e = true := am_kall (N := 224) (fun _ => rfl) (by decide +kernel)
set_option maxRecDepth 100000 in
theorem am_k_186 : ∀ pc e, am_c186 pc = some e → am_chk cX7_drift 7 pc e = true := am_kall (N := 252) (fun _ => rfl) (by decide +kernel)
set_option maxRecDepth 100000 in
theorem am_k_187 : ∀ pc e, am_c187 pc = some e → am_chk cX7_undo 7 pc e = true := am_kall (N := 61) (fun _ => rfl) (by decide +kernel)
set_option maxRecDepth 100000 in
theorem am_k_188 : ∀ pc e, am_c188 pc = some e → am_chk cX7_seed 7 pc e = true := am_kall (N := 22) (fun _ => rfl) (by decide +kernel)
set_option maxRecDepth 100000 in
theorem am_k_189 : ∀ pc e, am_c189 pc = some e → am_chk cX7_image 7 pc e = true := am_kall (N := 64) (fun _ => rfl) (by decide +kernel)
set_option maxRecDepth 100000 in
theorem am_k_190 : ∀ pc e, am_c190 pc = some e → am_chk cX7_restore 7 pc e = true := am_kall (N := 74) (fun _ => rfl) (by decide +kernel)
set_option maxRecDepth 100000 in
theorem am_k_191 : ∀ pc e, am_c191 pc = some e → am_chk cX7_isSheet 7 pc e = true := am_kall (N := 10) (fun _ => rfl) (by decide +kernel)
set_option maxRecDepth 100000 in
theorem am_k_192 : ∀ pc e, am_c192 pc = some e → am_chk cX7_cut 7 pc e = true := am_kall (N := 36) (fun _ => rfl) (by decide +kernel)
set_option maxRecDepth 100000 in
theorem am_k_193 : ∀ pc e, am_c193 pc = some e → am_chk cX7_found 7 pc e = true := am_kall (N := 49) (fun _ => rfl) (by decide +kernel)
set_option maxRecDepth 100000 in
theorem am_k_194 : ∀ pc e, am_c194 pc = some e → am_chk cX7_seen 7 pc e = true := am_kall (N := 171) (fun _ => rfl) (by decide +kernel)
set_option maxRecDepth 100000 in
theorem am_k_195 : ∀ pc e, am_c195 pc = some e → am_chk cX7_film 7 pc e = true := am_kall (N := 101) (fun _ => rfl) (by decide +kernel)
set_option maxRecDepth 100000 in
theorem am_k_196 : ∀ pc e, am_c196 pc = some e → am_chk cX7_sheet 7 pc e = true := am_kall (N := 79) (fun _ => rfl) (by decide +kernel)
set_option maxRecDepth 100000 in
theorem am_k_197 : ∀ pc e, am_c197 pc = some e → am_chk cX7_drop 7 pc e = true := am_kall (N := 35) (fun _ => rfl) (by decide +kernel)
set_option maxRecDepth 100000 in
theorem am_k_198 : ∀ pc e, am_c198 pc = some e → am_chk cX7_item 7 pc e = true := am_kall (N := 58) (fun _ => rfl) (by decide +kernel)
set_option maxRecDepth 100000 in
theorem am_k_199 : ∀ pc e, am_c199 pc = some e → am_chk cX7_copy 7 pc e = true := am_kall (N := 177) (fun _ => rfl) (by decide +kernel)
set_option maxRecDepth 100000 in
theorem am_k_200 : ∀ pc e, am_c200 pc = some e → am_chk cJ6_bitCount_0f7a4 9 pc e = true := am_kall (N := 53) (fun _ => rfl) (by decide +kernel)
def am_rok (r : AR) : Prop := ∀ pc e, r.2.2.2.2.2.2.2 pc = some e → am_chk r.2.1 r.2.2.2.2.1 pc e = true
theorem am_all_0 : ∀ r ∈ (am_all.drop 0).take 16, am_rok r := List.forall_mem_cons.mpr ⟨am_k_0, List.forall_mem_cons.mpr ⟨am_k_1, List.forall_mem_cons.mpr ⟨am_k_2, List.forall_mem_cons.mpr ⟨am_k_3, List.forall_mem_cons.mpr ⟨am_k_4, List.forall_mem_cons.mpr ⟨am_k_5, List.forall_mem_cons.mpr ⟨am_k_6, List.forall_mem_cons.mpr ⟨am_k_7, List.forall_mem_cons.mpr ⟨am_k_8, List.forall_mem_cons.mpr ⟨am_k_9, List.forall_mem_cons.mpr ⟨am_k_10, List.forall_mem_cons.mpr ⟨am_k_11, List.forall_mem_cons.mpr ⟨am_k_12, List.forall_mem_cons.mpr ⟨am_k_13, List.forall_mem_cons.mpr ⟨am_k_14, List.forall_mem_cons.mpr ⟨am_k_15, fun _ h => absurd h List.not_mem_nil⟩⟩⟩⟩⟩⟩⟩⟩⟩⟩⟩⟩⟩⟩⟩⟩
theorem am_all_16 : ∀ r ∈ (am_all.drop 16).take 16, am_rok r := List.forall_mem_cons.mpr ⟨am_k_16, List.forall_mem_cons.mpr ⟨am_k_17, List.forall_mem_cons.mpr ⟨am_k_18, List.forall_mem_cons.mpr ⟨am_k_19, List.forall_mem_cons.mpr ⟨am_k_20, List.forall_mem_cons.mpr ⟨am_k_21, List.forall_mem_cons.mpr ⟨am_k_22, List.forall_mem_cons.mpr ⟨am_k_23, List.forall_mem_cons.mpr ⟨am_k_24, List.forall_mem_cons.mpr ⟨am_k_25, List.forall_mem_cons.mpr ⟨am_k_26, List.forall_mem_cons.mpr ⟨am_k_27, List.forall_mem_cons.mpr ⟨am_k_28, List.forall_mem_cons.mpr ⟨am_k_29, List.forall_mem_cons.mpr ⟨am_k_30, List.forall_mem_cons.mpr ⟨am_k_31, fun _ h => absurd h List.not_mem_nil⟩⟩⟩⟩⟩⟩⟩⟩⟩⟩⟩⟩⟩⟩⟩⟩
theorem am_all_32 : ∀ r ∈ (am_all.drop 32).take 16, am_rok r := List.forall_mem_cons.mpr ⟨am_k_32, List.forall_mem_cons.mpr ⟨am_k_33, List.forall_mem_cons.mpr ⟨am_k_34, List.forall_mem_cons.mpr ⟨am_k_35, List.forall_mem_cons.mpr ⟨am_k_36, List.forall_mem_cons.mpr ⟨am_k_37, List.forall_mem_cons.mpr ⟨am_k_38, List.forall_mem_cons.mpr ⟨am_k_39, List.forall_mem_cons.mpr ⟨am_k_40, List.forall_mem_cons.mpr ⟨am_k_41, List.forall_mem_cons.mpr ⟨am_k_42, List.forall_mem_cons.mpr ⟨am_k_43, List.forall_mem_cons.mpr ⟨am_k_44, List.forall_mem_cons.mpr ⟨am_k_45, List.forall_mem_cons.mpr ⟨am_k_46, List.forall_mem_cons.mpr ⟨am_k_47, fun _ h => absurd h List.not_mem_nil⟩⟩⟩⟩⟩⟩⟩⟩⟩⟩⟩⟩⟩⟩⟩⟩
theorem am_all_48 : ∀ r ∈ (am_all.drop 48).take 16, am_rok r := List.forall_mem_cons.mpr ⟨am_k_48, List.forall_mem_cons.mpr ⟨am_k_49, List.forall_mem_cons.mpr ⟨am_k_50, List.forall_mem_cons.mpr ⟨am_k_51, List.forall_mem_cons.mpr ⟨am_k_52, List.forall_mem_cons.mpr ⟨am_k_53, List.forall_mem_cons.mpr ⟨am_k_54, List.forall_mem_cons.mpr ⟨am_k_55, List.forall_mem_cons.mpr ⟨am_k_56, List.forall_mem_cons.mpr ⟨am_k_57, List.forall_mem_cons.mpr ⟨am_k_58, List.forall_mem_cons.mpr ⟨am_k_59, List.forall_mem_cons.mpr ⟨am_k_60, List.forall_mem_cons.mpr ⟨am_k_61, List.forall_mem_cons.mpr ⟨am_k_62, List.forall_mem_cons.mpr ⟨am_k_63, fun _ h => absurd h List.not_mem_nil⟩⟩⟩⟩⟩⟩⟩⟩⟩⟩⟩⟩⟩⟩⟩⟩
theorem am_all_64 : ∀ r ∈ (am_all.drop 64).take 16, am_rok r := List.forall_mem_cons.mpr ⟨am_k_64, List.forall_mem_cons.mpr ⟨am_k_65, List.forall_mem_cons.mpr ⟨am_k_66, List.forall_mem_cons.mpr ⟨am_k_67, List.forall_mem_cons.mpr ⟨am_k_68, List.forall_mem_cons.mpr ⟨am_k_69, List.forall_mem_cons.mpr ⟨am_k_70, List.forall_mem_cons.mpr ⟨am_k_71, List.forall_mem_cons.mpr ⟨am_k_72, List.forall_mem_cons.mpr ⟨am_k_73, List.forall_mem_cons.mpr ⟨am_k_74, List.forall_mem_cons.mpr ⟨am_k_75, List.forall_mem_cons.mpr ⟨am_k_76, List.forall_mem_cons.mpr ⟨am_k_77, List.forall_mem_cons.mpr ⟨am_k_78, List.forall_mem_cons.mpr ⟨am_k_79, fun _ h => absurd h List.not_mem_nil⟩⟩⟩⟩⟩⟩⟩⟩⟩⟩⟩⟩⟩⟩⟩⟩
theorem am_all_80 : ∀ r ∈ (am_all.drop 80).take 16, am_rok r := List.forall_mem_cons.mpr ⟨am_k_80, List.forall_mem_cons.mpr ⟨am_k_81, List.forall_mem_cons.mpr ⟨am_k_82, List.forall_mem_cons.mpr ⟨am_k_83, List.forall_mem_cons.mpr ⟨am_k_84, List.forall_mem_cons.mpr ⟨am_k_85, List.forall_mem_cons.mpr ⟨am_k_86, List.forall_mem_cons.mpr ⟨am_k_87, List.forall_mem_cons.mpr ⟨am_k_88, List.forall_mem_cons.mpr ⟨am_k_89, List.forall_mem_cons.mpr ⟨am_k_90, List.forall_mem_cons.mpr ⟨am_k_91, List.forall_mem_cons.mpr ⟨am_k_92, List.forall_mem_cons.mpr ⟨am_k_93, List.forall_mem_cons.mpr ⟨am_k_94, List.forall_mem_cons.mpr ⟨am_k_95, fun _ h => absurd h List.not_mem_nil⟩⟩⟩⟩⟩⟩⟩⟩⟩⟩⟩⟩⟩⟩⟩⟩
theorem am_all_96 : ∀ r ∈ (am_all.drop 96).take 16, am_rok r := List.forall_mem_cons.mpr ⟨am_k_96, List.forall_mem_cons.mpr ⟨am_k_97, List.forall_mem_cons.mpr ⟨am_k_98, List.forall_mem_cons.mpr ⟨am_k_99, List.forall_mem_cons.mpr ⟨am_k_100, List.forall_mem_cons.mpr ⟨am_k_101, List.forall_mem_cons.mpr ⟨am_k_102, List.forall_mem_cons.mpr ⟨am_k_103, List.forall_mem_cons.mpr ⟨am_k_104, List.forall_mem_cons.mpr ⟨am_k_105, List.forall_mem_cons.mpr ⟨am_k_106, List.forall_mem_cons.mpr ⟨am_k_107, List.forall_mem_cons.mpr ⟨am_k_108, List.forall_mem_cons.mpr ⟨am_k_109, List.forall_mem_cons.mpr ⟨am_k_110, List.forall_mem_cons.mpr ⟨am_k_111, fun _ h => absurd h List.not_mem_nil⟩⟩⟩⟩⟩⟩⟩⟩⟩⟩⟩⟩⟩⟩⟩⟩
theorem am_all_112 : ∀ r ∈ (am_all.drop 112).take 16, am_rok r := List.forall_mem_cons.mpr ⟨am_k_112, List.forall_mem_cons.mpr ⟨am_k_113, List.forall_mem_cons.mpr ⟨am_k_114, List.forall_mem_cons.mpr ⟨am_k_115, List.forall_mem_cons.mpr ⟨am_k_116, List.forall_mem_cons.mpr ⟨am_k_117, List.forall_mem_cons.mpr ⟨am_k_118, List.forall_mem_cons.mpr ⟨am_k_119, List.forall_mem_cons.mpr ⟨am_k_120, List.forall_mem_cons.mpr ⟨am_k_121, List.forall_mem_cons.mpr ⟨am_k_122, List.forall_mem_cons.mpr ⟨am_k_123, List.forall_mem_cons.mpr ⟨am_k_124, List.forall_mem_cons.mpr ⟨am_k_125, List.forall_mem_cons.mpr ⟨am_k_126, List.forall_mem_cons.mpr ⟨am_k_127, fun _ h => absurd h List.not_mem_nil⟩⟩⟩⟩⟩⟩⟩⟩⟩⟩⟩⟩⟩⟩⟩⟩
theorem am_all_128 : ∀ r ∈ (am_all.drop 128).take 16, am_rok r := List.forall_mem_cons.mpr ⟨am_k_128, List.forall_mem_cons.mpr ⟨am_k_129, List.forall_mem_cons.mpr ⟨am_k_130, List.forall_mem_cons.mpr ⟨am_k_131, List.forall_mem_cons.mpr ⟨am_k_132, List.forall_mem_cons.mpr ⟨am_k_133, List.forall_mem_cons.mpr ⟨am_k_134, List.forall_mem_cons.mpr ⟨am_k_135, List.forall_mem_cons.mpr ⟨am_k_136, List.forall_mem_cons.mpr ⟨am_k_137, List.forall_mem_cons.mpr ⟨am_k_138, List.forall_mem_cons.mpr ⟨am_k_139, List.forall_mem_cons.mpr ⟨am_k_140, List.forall_mem_cons.mpr ⟨am_k_141, List.forall_mem_cons.mpr ⟨am_k_142, List.forall_mem_cons.mpr ⟨am_k_143, fun _ h => absurd h List.not_mem_nil⟩⟩⟩⟩⟩⟩⟩⟩⟩⟩⟩⟩⟩⟩⟩⟩
theorem am_all_144 : ∀ r ∈ (am_all.drop 144).take 16, am_rok r := List.forall_mem_cons.mpr ⟨am_k_144, List.forall_mem_cons.mpr ⟨am_k_145, List.forall_mem_cons.mpr ⟨am_k_146, List.forall_mem_cons.mpr ⟨am_k_147, List.forall_mem_cons.mpr ⟨am_k_148, List.forall_mem_cons.mpr ⟨am_k_149, List.forall_mem_cons.mpr ⟨am_k_150, List.forall_mem_cons.mpr ⟨am_k_151, List.forall_mem_cons.mpr ⟨am_k_152, List.forall_mem_cons.mpr ⟨am_k_153, List.forall_mem_cons.mpr ⟨am_k_154, List.forall_mem_cons.mpr ⟨am_k_155, List.forall_mem_cons.mpr ⟨am_k_156, List.forall_mem_cons.mpr ⟨am_k_157, List.forall_mem_cons.mpr ⟨am_k_158, List.forall_mem_cons.mpr ⟨am_k_159, fun _ h => absurd h List.not_mem_nil⟩⟩⟩⟩⟩⟩⟩⟩⟩⟩⟩⟩⟩⟩⟩⟩
theorem am_all_160 : ∀ r ∈ (am_all.drop 160).take 16, am_rok r := List.forall_mem_cons.mpr ⟨am_k_160, List.forall_mem_cons.mpr ⟨am_k_161, List.forall_mem_cons.mpr ⟨am_k_162, List.forall_mem_cons.mpr ⟨am_k_163, List.forall_mem_cons.mpr ⟨am_k_164, List.forall_mem_cons.mpr ⟨am_k_165, List.forall_mem_cons.mpr ⟨am_k_166, List.forall_mem_cons.mpr ⟨am_k_167, List.forall_mem_cons.mpr ⟨am_k_168, List.forall_mem_cons.mpr ⟨am_k_169, List.forall_mem_cons.mpr ⟨am_k_170, List.forall_mem_cons.mpr ⟨am_k_171, List.forall_mem_cons.mpr ⟨am_k_172, List.forall_mem_cons.mpr ⟨am_k_173, List.forall_mem_cons.mpr ⟨am_k_174, List.forall_mem_cons.mpr ⟨am_k_175, fun _ h => absurd h List.not_mem_nil⟩⟩⟩⟩⟩⟩⟩⟩⟩⟩⟩⟩⟩⟩⟩⟩
theorem am_all_176 : ∀ r ∈ (am_all.drop 176).take 16, am_rok r := List.forall_mem_cons.mpr ⟨am_k_176, List.forall_mem_cons.mpr ⟨am_k_177, List.forall_mem_cons.mpr ⟨am_k_178, List.forall_mem_cons.mpr ⟨am_k_179, List.forall_mem_cons.mpr ⟨am_k_180, List.forall_mem_cons.mpr ⟨am_k_181, List.forall_mem_cons.mpr ⟨am_k_182, List.forall_mem_cons.mpr ⟨am_k_183, List.forall_mem_cons.mpr ⟨am_k_184, List.forall_mem_cons.mpr ⟨am_k_185, List.forall_mem_cons.mpr ⟨am_k_186, List.forall_mem_cons.mpr ⟨am_k_187, List.forall_mem_cons.mpr ⟨am_k_188, List.forall_mem_cons.mpr ⟨am_k_189, List.forall_mem_cons.mpr ⟨am_k_190, List.forall_mem_cons.mpr ⟨am_k_191, fun _ h => absurd h List.not_mem_nil⟩⟩⟩⟩⟩⟩⟩⟩⟩⟩⟩⟩⟩⟩⟩⟩
theorem am_all_192 : ∀ r ∈ (am_all.drop 192).take 9, am_rok r := List.forall_mem_cons.mpr ⟨am_k_192, List.forall_mem_cons.mpr ⟨am_k_193, List.forall_mem_cons.mpr ⟨am_k_194, List.forall_mem_cons.mpr ⟨am_k_195, List.forall_mem_cons.mpr ⟨am_k_196, List.forall_mem_cons.mpr ⟨am_k_197, List.forall_mem_cons.mpr ⟨am_k_198, List.forall_mem_cons.mpr ⟨am_k_199, List.forall_mem_cons.mpr ⟨am_k_200, fun _ h => absurd h List.not_mem_nil⟩⟩⟩⟩⟩⟩⟩⟩⟩
