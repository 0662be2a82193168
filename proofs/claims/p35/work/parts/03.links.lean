/-! the links and the codes of part 02 are the tables' and the class files' -/
def am_TT : List Jvm.Cond := lw_tbl.filter goodWord
theorem am_mem {z : Nat} {w : Jvm.Cond} (h : lw_tbl[z]? = some w) (hg : goodWord w = true) : w ∈ am_TT := List.mem_filter.mpr ⟨List.mem_of_getElem? h, hg⟩
def am_yn (k m : Nat) : MethodName := match k with
  | 5 => objectInit
  | 6 => Lib.Math.max.name
  | 7 => Lib.Math.min.name
  | 8 => Lib.Math.abs.name
  | 9 => Lib.MathLoose.max_long.x
  | 10 => Lib.MathLoose.abs_long.x
  | 11 => arraycopyName
  | 12 => yJ0_length_8abf5
  | 13 => yJ0_charAt_5068e
  | _ => match am_all[m]? with
    | some r => r.1
    | none => objectInit
def am_lw (q : Nat × Nat × Nat × Nat × Nat) : Jvm.Cond := match q.2.2.2.1 with
  | 3 => .methodLinkNest (am_RO q.1) q.2.1 (am_yn q.2.2.2.1 q.2.2.1) RX6
  | 4 => .methodLinkNest (am_RO q.1) q.2.1 (am_yn q.2.2.2.1 q.2.2.1) RX6
  | _ => .methodLink (am_RO q.1) q.2.1 (am_yn q.2.2.2.1 q.2.2.1)
set_option maxRecDepth 100000 in
theorem lkF_ok : ∀ q ∈ lkF, lw_tbl[q.2.2.2.2]? = some (Jvm.Cond.fieldLink (am_RO q.1) q.2.1 (am_T q.2.2.1 q.2.2.2.1).1 (am_T q.2.2.1 q.2.2.2.1).2.1 (am_T q.2.2.1 q.2.2.2.1).2.2.1) ∧ q.2.2.1 < 7 ∧ q.2.2.2.1 < am_N q.2.2.1 := by decide +kernel
set_option maxRecDepth 100000 in
theorem lkM_ok : ∀ q ∈ lkM, lw_tbl[q.2.2.2.2]? = some (am_lw q) := by decide +kernel
def am_cn (a : Nat) : String := match a with
  | 99 => "[[I"
  | _ => am_RO a
set_option maxRecDepth 100000 in
theorem lkN_ok : ∀ q ∈ lkN, lw_tbl[q.2.2.2]? = some (Jvm.Cond.classLink (am_RO q.1) q.2.1 (am_cn q.2.2.1)) := by decide +kernel
def am_kw (q : Nat × Nat × Value × Nat) : Option Jvm.Cond := match q.2.2.1 with
  | .int v => some (.constant (am_RO q.1) q.2.1 v)
  | .long v => some (.constantLong (am_RO q.1) q.2.1 v)
  | _ => none
set_option maxRecDepth 100000 in
theorem lkK_ok : ∀ q ∈ lkK, lw_tbl[q.2.2.2]? = am_kw q := by decide +kernel
set_option maxRecDepth 100000 in
theorem lkS_ok : ∀ q ∈ lkS, lw_tbl[q.2.2.2]? = some (Jvm.Cond.stringRef (am_RO q.1) q.2.1 q.2.2.1) := by decide +kernel

def am_mw : List (Nat × Nat × Nat × Nat) := [
  (144, 143, 0, 29), (352, 350, 351, 29), (356, 355, 2, 29), (370, 369, 3, 29), (378, 377, 4, 29), (382, 381, 5, 29), (386, 385, 6, 29), (678, 676, 677, 29),
  (197, 196, 0, 30), (730, 728, 729, 30), (704, 703, 0, 30), (739, 737, 738, 30), (735, 733, 734, 30), (127, 126, 0, 28), (331, 329, 330, 28), (335, 334, 1, 28),
  (439, 437, 438, 28), (447, 445, 446, 28), (257, 256, 0, 32), (782, 780, 781, 32), (794, 792, 793, 32), (798, 796, 797, 32), (810, 808, 809, 32), (52, 51, 0, 27),
  (313, 311, 312, 27), (686, 684, 685, 27), (374, 372, 373, 27), (390, 388, 389, 27), (360, 358, 359, 27), (363, 362, 0, 27), (463, 461, 462, 27), (471, 469, 470, 27),
  (479, 477, 478, 27), (320, 318, 319, 27), (489, 487, 488, 27), (344, 342, 343, 27), (655, 653, 654, 27), (659, 657, 658, 27), (663, 662, 23, 27), (666, 665, 0, 27),
  (398, 396, 397, 27), (417, 415, 416, 27), (513, 511, 512, 27), (409, 407, 408, 27), (413, 412, 7, 27), (424, 422, 423, 27), (850, 848, 849, 27), (212, 211, 0, 31),
  (501, 499, 500, 31), (647, 645, 646, 31), (534, 532, 533, 31), (538, 537, 8, 31), (550, 549, 11, 31), (555, 554, 12, 31), (614, 613, 14, 31), (618, 617, 15, 31),
  (631, 630, 18, 31), (635, 634, 19, 31), (643, 642, 21, 31), (639, 638, 20, 31), (626, 625, 17, 31), (622, 621, 16, 31), (542, 541, 9, 31), (546, 545, 10, 31),
  (610, 609, 13, 31), (44, 43, 0, 26), (459, 457, 458, 26), (467, 465, 466, 26), (475, 473, 474, 26), (309, 307, 308, 26), (485, 483, 484, 26), (340, 338, 339, 26),
  (682, 680, 681, 26), (674, 672, 673, 26), (691, 689, 690, 26), (348, 346, 347, 26), (698, 696, 697, 26), (757, 755, 756, 26), (725, 723, 724, 26), (763, 761, 762, 26),
  (717, 715, 716, 26), (394, 392, 393, 26), (505, 503, 504, 26), (526, 524, 525, 26), (402, 400, 401, 26), (496, 494, 495, 26), (530, 528, 529, 26), (846, 844, 845, 26),
  (435, 433, 434, 26), (838, 836, 837, 26), (842, 840, 841, 26), (443, 441, 442, 26), (806, 804, 805, 26), (786, 784, 785, 26), (775, 773, 774, 26), (820, 818, 819, 26),
  (802, 800, 801, 26), (802, 800, 801, 26), (327, 326, 0, 26), (651, 650, 22, 26), (790, 789, 24, 26), (323, 322, 0, 26), (701, 700, 0, 26), (405, 404, 0, 26),
  (778, 777, 0, 26), (427, 426, 0, 26), (366, 365, 0, 26), (430, 429, 0, 26), (420, 419, 0, 26), (509, 508, 0, 26), (522, 521, 0, 26), (516, 515, 0, 34),
  (450, 449, 0, 25), (815, 814, 0, 25), (713, 712, 0, 25), (455, 454, 0, 25), (492, 491, 0, 25), (670, 669, 0, 25), (694, 693, 0, 25), (768, 767, 0, 25),
  (771, 770, 0, 25), (826, 825, 0, 25), (823, 822, 0, 25), (0, 0, 0, 0)]
def am_mok (q : Nat × Nat × Nat × Nat) (r : AR) : Bool :=
  decide (lw_tbl[q.1]? = some (Jvm.Cond.code r.1 r.2.1 r.2.2.1 r.2.2.2.1)) &&
  decide (lw_tbl[q.2.1]? = some (cond r.2.2.2.2.2.2.1 (Jvm.Cond.static r.1) (Jvm.Cond.instanceMethod r.1))) &&
  (r.2.2.2.2.2.2.1 || decide (r.1.name = "<init>") || decide (lw_tbl[q.2.2.1]? = some (Jvm.Cond.selects (am_RO r.2.2.2.2.1) r.1 r.1))) &&
  decide (lw_tbl[q.2.2.2]? = some (Jvm.Cond.initialized r.1.cls)) &&
  decide (r.1.cls = am_RO r.2.2.2.2.1 ∧ r.1.cls ≠ "java/lang/invoke/MethodHandle" ∧ r.1.cls ≠ "java/lang/invoke/VarHandle" ∧ (parseMethodDescriptor r.1.desc).map (fun d => d.parameters.length) = some (r.2.2.2.2.2.1 - cond r.2.2.2.2.2.2.1 0 1)) &&
  decide (r.2.2.1 ≤ 30) && decide (r.2.2.2.2.1 < 10) && decide (plainName r.1.cls = true)
set_option maxRecDepth 100000 in
theorem am_mok_0 : ((am_mw.zip am_all).drop 0 |>.take 20).all (fun x => am_mok x.1 x.2) = true := by decide +kernel
set_option maxRecDepth 100000 in
theorem am_mok_20 : ((am_mw.zip am_all).drop 20 |>.take 20).all (fun x => am_mok x.1 x.2) = true := by decide +kernel
set_option maxRecDepth 100000 in
theorem am_mok_40 : ((am_mw.zip am_all).drop 40 |>.take 20).all (fun x => am_mok x.1 x.2) = true := by decide +kernel
set_option maxRecDepth 100000 in
theorem am_mok_60 : ((am_mw.zip am_all).drop 60 |>.take 20).all (fun x => am_mok x.1 x.2) = true := by decide +kernel
set_option maxRecDepth 100000 in
theorem am_mok_80 : ((am_mw.zip am_all).drop 80 |>.take 20).all (fun x => am_mok x.1 x.2) = true := by decide +kernel
set_option maxRecDepth 100000 in
theorem am_mok_100 : ((am_mw.zip am_all).drop 100 |>.take 12).all (fun x => am_mok x.1 x.2) = true := by decide +kernel
def am_mok2 (q : Nat × Nat × Nat × Nat) (r : AR) : Bool := true &&
  decide (lw_tbl[q.2.1]? = some (cond r.2.2.2.2.2.2.1 (Jvm.Cond.static r.1) (Jvm.Cond.instanceMethod r.1))) &&
  (r.2.2.2.2.2.2.1 || decide (r.1.name = "<init>") || decide (lw_tbl[q.2.2.1]? = some (Jvm.Cond.selects (am_RO r.2.2.2.2.1) r.1 r.1))) &&
  decide (lw_tbl[q.2.2.2]? = some (Jvm.Cond.initialized r.1.cls)) &&
  decide (r.1.cls = am_RO r.2.2.2.2.1 ∧ r.1.cls ≠ "java/lang/invoke/MethodHandle" ∧ r.1.cls ≠ "java/lang/invoke/VarHandle" ∧ (parseMethodDescriptor r.1.desc).map (fun d => d.parameters.length) = some (r.2.2.2.2.2.1 - cond r.2.2.2.2.2.2.1 0 1)) &&
  decide (r.2.2.1 ≤ 30) && decide (r.2.2.2.2.1 < 10) && decide (plainName r.1.cls = true)
theorem am_mok_of {q : Nat × Nat × Nat × Nat} {r : AR} (h1 : lw_tbl[q.1]? = some (Jvm.Cond.code r.1 r.2.1 r.2.2.1 r.2.2.2.1)) (h2 : am_mok2 q r = true) : am_mok q r = true := by
  unfold am_mok
  rw [decide_eq_true h1]
  exact h2
set_option maxRecDepth 100000 in
theorem am_mokL_112 : am_mok (450, 449, 0, 25) (yL_cell, cL_cell, 2, (some .int), 8, 2, true, am_c112) = true := am_mok_of rfl (by decide +kernel)
set_option maxRecDepth 100000 in
theorem am_mokL_113 : am_mok (815, 814, 0, 25) (yL_bits, cL_bits, 3, (some .int), 8, 1, true, am_c113) = true := am_mok_of rfl (by decide +kernel)
set_option maxRecDepth 100000 in
theorem am_mokL_114 : am_mok (713, 712, 0, 25) (yL_divisor, cL_divisor, 10, (some .long), 8, 2, true, am_c114) = true := am_mok_of rfl (by decide +kernel)
set_option maxRecDepth 100000 in
theorem am_mokL_115 : am_mok (455, 454, 0, 25) (yL_builds, cL_builds, 8, (some .boolean), 8, 2, true, am_c115) = true := am_mok_of rfl (by decide +kernel)
set_option maxRecDepth 100000 in
theorem am_mokL_116 : am_mok (492, 491, 0, 25) (yL_words, cL_words, 10, (some .boolean), 8, 3, true, am_c116) = true := am_mok_of rfl (by decide +kernel)
set_option maxRecDepth 100000 in
theorem am_mokL_117 : am_mok (670, 669, 0, 25) (yL_frames, cL_frames, 13, (some .boolean), 8, 1, true, am_c117) = true := am_mok_of rfl (by decide +kernel)
set_option maxRecDepth 100000 in
theorem am_mokL_118 : am_mok (694, 693, 0, 25) (yL_seen, cL_seen, 30, (some .boolean), 8, 2, true, am_c118) = true := am_mok_of rfl (by decide +kernel)
set_option maxRecDepth 100000 in
theorem am_mokL_119 : am_mok (768, 767, 0, 25) (yL_lists, cL_lists, 10, (some .boolean), 8, 1, true, am_c119) = true := am_mok_of rfl (by decide +kernel)
set_option maxRecDepth 100000 in
theorem am_mokL_120 : am_mok (771, 770, 0, 25) (yL_shown, cL_shown, 8, (some .boolean), 8, 2, true, am_c120) = true := am_mok_of rfl (by decide +kernel)
set_option maxRecDepth 100000 in
theorem am_mokL_121 : am_mok (826, 825, 0, 25) (yL_mark, cL_mark, 4, (some .long), 8, 1, true, am_c121) = true := am_mok_of rfl (by decide +kernel)
set_option maxRecDepth 100000 in
theorem am_mokL_122 : am_mok (823, 822, 0, 25) (yL_back, cL_back, 11, (some .boolean), 8, 2, true, am_c122) = true := am_mok_of rfl (by decide +kernel)
def am_il (i : Instr) (k : Nat) : Nat := match i with
  | .bipush _ => 2
  | .iload _ => 2
  | .istore _ => 2
  | .lload _ => 2
  | .lstore _ => 2
  | .ldc _ => 2
  | .newarray _ => 2
  | .sipush _ => 3
  | .ldc_w _ => 3
  | .ldc2_w _ => 3
  | .getfield _ => 3
  | .putfield _ => 3
  | .goto _ => 3
  | .ifCond _ _ => 3
  | .if_icmp _ _ => 3
  | .iinc _ _ => 3
  | .invokevirtual _ => 3
  | .invokestatic _ => 3
  | .invokespecial _ => 3
  | .new _ => 3
  | .anewarray _ => 3
  | .multianewarray _ _ => 4
  | .tableswitch _ _ _ _ => k
  | .lookupswitch _ _ => k
  | _ => 1
def am_k5 (o i a b : Nat) (q : Option (Nat × Nat × Nat × Nat × Nat)) : Bool := match q with
  | some q => Nat.beq q.1 o && Nat.beq q.2.1 i && Nat.beq q.2.2.1 a && Nat.beq q.2.2.2.1 b
  | none => false
def am_k4 (o i a : Nat) (q : Option (Nat × Nat × Nat × Nat)) : Bool := match q with
  | some q => Nat.beq q.1 o && Nat.beq q.2.1 i && Nat.beq q.2.2.1 a
  | none => false
def am_kI (o i : Nat) (v : Value) (q : Option (Nat × Nat × Value × Nat)) : Bool := match q with
  | some q => Nat.beq q.1 o && Nat.beq q.2.1 i && decide (q.2.2.1 = v) && (match v with | .int _ => true | _ => false)
  | none => false
def am_kL (o i : Nat) (v : Value) (q : Option (Nat × Nat × Value × Nat)) : Bool := match q with
  | some q => Nat.beq q.1 o && Nat.beq q.2.1 i && decide (q.2.2.1 = v) && (match v with | .long _ => true | _ => false)
  | none => false
def am_kS (o i z : Nat) (v : Value) (q : Option (Nat × Nat × String × Nat)) : Bool := match q with
  | some q => Nat.beq q.1 o && Nat.beq q.2.1 i && decide (v = .ref (9990 + z)) && Nat.ble z 3
  | none => false
def am_chka (o pc : Nat) (e : AE) : Bool := match e with
  | (ins, nx, a, b, z, v) => match ins with
    | .iconst n => decide (v = .int (Int32.ofInt n))
    | .bipush n => decide (v = .int (Int8.ofInt n).toInt32)
    | .sipush n => decide (v = .int (Int16.ofInt n).toInt32)
    | .lconst n => decide (v = .long (Int64.ofNat n))
    | .ldc i => am_kI o i v lkK[z]? || am_kS o i (z - 1000) v lkS[z - 1000]?
    | .ldc_w i => am_kI o i v lkK[z]?
    | .ldc2_w i => am_kL o i v lkK[z]?
    | .iinc _ n => decide (v = .int (Int32.ofInt n))
    | .goto off => decide ((pc : Int) + off = a)
    | .ifCond _ off => decide ((pc : Int) + off = a)
    | .if_icmp _ off => decide ((pc : Int) + off = a)
    | .getfield i => am_k5 o i a b lkF[z]?
    | .putfield i => am_k5 o i a b lkF[z]?
    | .invokevirtual i => am_k5 o i a b lkM[z]? && (Nat.beq b 0 || Nat.beq b 12 || Nat.beq b 13)
    | .invokestatic i => am_k5 o i a b lkM[z]? && (Nat.beq b 1 || Nat.beq b 3 || (Nat.ble 6 b && Nat.ble b 11))
    | .invokespecial i => am_k5 o i a b lkM[z]? && (Nat.beq b 2 || Nat.beq b 4 || Nat.beq b 5)
    | .new i => am_k4 o i a lkN[z]? && Nat.blt a 7
    | .anewarray i => am_k4 o i a lkN[z]? && (Nat.beq a 3 || Nat.beq a 4)
    | .multianewarray i k => am_k4 o i a lkN[z]? && Nat.beq a 99 && Nat.beq k 2
    | .newarray t => decide ((t = .int ∧ a = 2) ∨ (t = .boolean ∧ a = 3) ∨ (t = .long ∧ a = 4))
    | _ => true
def am_chk (bytes : ByteArray) (o pc : Nat) (e : AE) : Bool :=
  decide (decode bytes pc = .ok (e.1, am_il e.1 (e.2.1 - pc))) && Nat.beq e.2.1 (pc + am_il e.1 (e.2.1 - pc)) && am_chka o pc e
def am_chko (bytes : ByteArray) (o pc : Nat) (e : Option AE) : Bool := match e with
  | some e => am_chk bytes o pc e
  | none => true
theorem am_kall {bytes : ByteArray} {o N : Nat} {f : Nat → Option AE} {g : Nat → Option AE} (hg : ∀ pc, g pc = cond (Nat.blt pc N) (f pc) none) (h : ∀ pc, pc < N → am_chko bytes o pc (g pc) = true) (pc : Nat) (e : AE) (he : g pc = some e) : am_chk bytes o pc e = true := by
  have h1 : pc < N := by
    rw [hg] at he
    cases hb : Nat.blt pc N with
    | true => exact Nat.le_of_ble_eq_true hb
    | false => rw [hb] at he; cases he
  have h2 := h pc h1
  rw [he] at h2
  exact h2
set_option maxRecDepth 100000 in
theorem am_k_0 : ∀ pc e, am_c0 pc = some e → am_chk cX0_init 0 pc e = true := am_kall (N := 75) (fun _ => rfl) (by decide +kernel)
set_option maxRecDepth 100000 in
theorem am_k_1 : ∀ pc e, am_c1 pc = some e → am_chk cX0_renew 0 pc e = true := am_kall (N := 20) (fun _ => rfl) (by decide +kernel)
set_option maxRecDepth 100000 in
theorem am_k_2 : ∀ pc e, am_c2 pc = some e → am_chk cX0_cutByMarks 0 pc e = true := am_kall (N := 50) (fun _ => rfl) (by decide +kernel)
set_option maxRecDepth 100000 in
theorem am_k_3 : ∀ pc e, am_c3 pc = some e → am_chk cX0_lend 0 pc e = true := am_kall (N := 140) (fun _ => rfl) (by decide +kernel)
set_option maxRecDepth 100000 in
theorem am_k_4 : ∀ pc e, am_c4 pc = some e → am_chk cX0_lendTo 0 pc e = true := am_kall (N := 85) (fun _ => rfl) (by decide +kernel)
set_option maxRecDepth 100000 in
theorem am_k_5 : ∀ pc e, am_c5 pc = some e → am_chk cX0_placeSounds 0 pc e = true := am_kall (N := 89) (fun _ => rfl) (by decide +kernel)
set_option maxRecDepth 100000 in
theorem am_k_6 : ∀ pc e, am_c6 pc = some e → am_chk cX0_findHolds 0 pc e = true := am_kall (N := 93) (fun _ => rfl) (by decide +kernel)
set_option maxRecDepth 100000 in
theorem am_k_7 : ∀ pc e, am_c7 pc = some e → am_chk cX0_firstOf 0 pc e = true := am_kall (N := 26) (fun _ => rfl) (by decide +kernel)
set_option maxRecDepth 100000 in
theorem am_k_8 : ∀ pc e, am_c8 pc = some e → am_chk cX1_init 1 pc e = true := am_kall (N := 21) (fun _ => rfl) (by decide +kernel)
set_option maxRecDepth 100000 in
theorem am_k_9 : ∀ pc e, am_c9 pc = some e → am_chk cX1_renew 1 pc e = true := am_kall (N := 57) (fun _ => rfl) (by decide +kernel)
set_option maxRecDepth 100000 in
theorem am_k_10 : ∀ pc e, am_c10 pc = some e → am_chk cX1_pulledParts 1 pc e = true := am_kall (N := 123) (fun _ => rfl) (by decide +kernel)
set_option maxRecDepth 100000 in
theorem am_k_11 : ∀ pc e, am_c11 pc = some e → am_chk cX1_smoothParts 1 pc e = true := am_kall (N := 94) (fun _ => rfl) (by decide +kernel)
set_option maxRecDepth 100000 in
theorem am_k_12 : ∀ pc e, am_c12 pc = some e → am_chk cX1_jumpParts 1 pc e = true := am_kall (N := 53) (fun _ => rfl) (by decide +kernel)
set_option maxRecDepth 100000 in
theorem am_k_13 : ∀ pc e, am_c13 pc = some e → am_chk cX2_init 2 pc e = true := am_kall (N := 46) (fun _ => rfl) (by decide +kernel)
set_option maxRecDepth 100000 in
theorem am_k_14 : ∀ pc e, am_c14 pc = some e → am_chk cX2_add 2 pc e = true := am_kall (N := 37) (fun _ => rfl) (by decide +kernel)
set_option maxRecDepth 100000 in
theorem am_k_15 : ∀ pc e, am_c15 pc = some e → am_chk cX2_loseOldest 2 pc e = true := am_kall (N := 48) (fun _ => rfl) (by decide +kernel)
set_option maxRecDepth 100000 in
theorem am_k_16 : ∀ pc e, am_c16 pc = some e → am_chk cX2_takeLatest 2 pc e = true := am_kall (N := 31) (fun _ => rfl) (by decide +kernel)
set_option maxRecDepth 100000 in
theorem am_k_17 : ∀ pc e, am_c17 pc = some e → am_chk cX2_become 2 pc e = true := am_kall (N := 40) (fun _ => rfl) (by decide +kernel)
set_option maxRecDepth 100000 in
theorem am_k_18 : ∀ pc e, am_c18 pc = some e → am_chk cX3_init 3 pc e = true := am_kall (N := 28) (fun _ => rfl) (by decide +kernel)
set_option maxRecDepth 100000 in
theorem am_k_19 : ∀ pc e, am_c19 pc = some e → am_chk cX3_start 3 pc e = true := am_kall (N := 37) (fun _ => rfl) (by decide +kernel)
set_option maxRecDepth 100000 in
theorem am_k_20 : ∀ pc e, am_c20 pc = some e → am_chk cX3_holds 3 pc e = true := am_kall (N := 32) (fun _ => rfl) (by decide +kernel)
set_option maxRecDepth 100000 in
theorem am_k_21 : ∀ pc e, am_c21 pc = some e → am_chk cX3_put 3 pc e = true := am_kall (N := 78) (fun _ => rfl) (by decide +kernel)
set_option maxRecDepth 100000 in
theorem am_k_22 : ∀ pc e, am_c22 pc = some e → am_chk cX3_lookFrom 3 pc e = true := am_kall (N := 63) (fun _ => rfl) (by decide +kernel)
set_option maxRecDepth 100000 in
theorem am_k_23 : ∀ pc e, am_c23 pc = some e → am_chk cX4_init 4 pc e = true := am_kall (N := 173) (fun _ => rfl) (by decide +kernel)
set_option maxRecDepth 100000 in
theorem am_k_24 : ∀ pc e, am_c24 pc = some e → am_chk cX4_become 4 pc e = true := am_kall (N := 202) (fun _ => rfl) (by decide +kernel)
set_option maxRecDepth 100000 in
theorem am_k_25 : ∀ pc e, am_c25 pc = some e → am_chk cX4_extent 4 pc e = true := am_kall (N := 30) (fun _ => rfl) (by decide +kernel)
set_option maxRecDepth 100000 in
theorem am_k_26 : ∀ pc e, am_c26 pc = some e → am_chk cX4_isClosed 4 pc e = true := am_kall (N := 20) (fun _ => rfl) (by decide +kernel)
set_option maxRecDepth 100000 in
theorem am_k_27 : ∀ pc e, am_c27 pc = some e → am_chk cX4_startOf 4 pc e = true := am_kall (N := 26) (fun _ => rfl) (by decide +kernel)
set_option maxRecDepth 100000 in
theorem am_k_28 : ∀ pc e, am_c28 pc = some e → am_chk cX4_markOf 4 pc e = true := am_kall (N := 13) (fun _ => rfl) (by decide +kernel)
set_option maxRecDepth 100000 in
theorem am_k_29 : ∀ pc e, am_c29 pc = some e → am_chk cX4_markBy 4 pc e = true := am_kall (N := 17) (fun _ => rfl) (by decide +kernel)
set_option maxRecDepth 100000 in
theorem am_k_30 : ∀ pc e, am_c30 pc = some e → am_chk cX4_tellShape 4 pc e = true := am_kall (N := 90) (fun _ => rfl) (by decide +kernel)
set_option maxRecDepth 100000 in
theorem am_k_31 : ∀ pc e, am_c31 pc = some e → am_chk cX4_tellSign 4 pc e = true := am_kall (N := 89) (fun _ => rfl) (by decide +kernel)
set_option maxRecDepth 100000 in
theorem am_k_32 : ∀ pc e, am_c32 pc = some e → am_chk cX4_addSound 4 pc e = true := am_kall (N := 90) (fun _ => rfl) (by decide +kernel)
set_option maxRecDepth 100000 in
theorem am_k_33 : ∀ pc e, am_c33 pc = some e → am_chk cX4_removeSound 4 pc e = true := am_kall (N := 75) (fun _ => rfl) (by decide +kernel)
set_option maxRecDepth 100000 in
theorem am_k_34 : ∀ pc e, am_c34 pc = some e → am_chk cX4_tellFrame 4 pc e = true := am_kall (N := 86) (fun _ => rfl) (by decide +kernel)
set_option maxRecDepth 100000 in
theorem am_k_35 : ∀ pc e, am_c35 pc = some e → am_chk cX4_tellWindow 4 pc e = true := am_kall (N := 34) (fun _ => rfl) (by decide +kernel)
set_option maxRecDepth 100000 in
theorem am_k_36 : ∀ pc e, am_c36 pc = some e → am_chk cX4_tellLine 4 pc e = true := am_kall (N := 73) (fun _ => rfl) (by decide +kernel)
set_option maxRecDepth 100000 in
theorem am_k_37 : ∀ pc e, am_c37 pc = some e → am_chk cX4_addWord 4 pc e = true := am_kall (N := 75) (fun _ => rfl) (by decide +kernel)
set_option maxRecDepth 100000 in
theorem am_k_38 : ∀ pc e, am_c38 pc = some e → am_chk cX4_hasWord 4 pc e = true := am_kall (N := 44) (fun _ => rfl) (by decide +kernel)
set_option maxRecDepth 100000 in
theorem am_k_39 : ∀ pc e, am_c39 pc = some e → am_chk cX4_startsLike 4 pc e = true := am_kall (N := 26) (fun _ => rfl) (by decide +kernel)
set_option maxRecDepth 100000 in
theorem am_k_40 : ∀ pc e, am_c40 pc = some e → am_chk cX4_removeWord 4 pc e = true := am_kall (N := 96) (fun _ => rfl) (by decide +kernel)
set_option maxRecDepth 100000 in
theorem am_k_41 : ∀ pc e, am_c41 pc = some e → am_chk cX4_lookOf 4 pc e = true := am_kall (N := 40) (fun _ => rfl) (by decide +kernel)
set_option maxRecDepth 100000 in
theorem am_k_42 : ∀ pc e, am_c42 pc = some e → am_chk cX4_wordsLooking 4 pc e = true := am_kall (N := 35) (fun _ => rfl) (by decide +kernel)
set_option maxRecDepth 100000 in
theorem am_k_43 : ∀ pc e, am_c43 pc = some e → am_chk cX4_guessedWeight 4 pc e = true := am_kall (N := 37) (fun _ => rfl) (by decide +kernel)
set_option maxRecDepth 100000 in
theorem am_k_44 : ∀ pc e, am_c44 pc = some e → am_chk cX4_isGuessed 4 pc e = true := am_kall (N := 82) (fun _ => rfl) (by decide +kernel)
set_option maxRecDepth 100000 in
theorem am_k_45 : ∀ pc e, am_c45 pc = some e → am_chk cX4_allWeight 4 pc e = true := am_kall (N := 29) (fun _ => rfl) (by decide +kernel)
set_option maxRecDepth 100000 in
theorem am_k_46 : ∀ pc e, am_c46 pc = some e → am_chk cX4_driftOnce 4 pc e = true := am_kall (N := 182) (fun _ => rfl) (by decide +kernel)
set_option maxRecDepth 100000 in
theorem am_k_47 : ∀ pc e, am_c47 pc = some e → am_chk cX5_init 5 pc e = true := am_kall (N := 64) (fun _ => rfl) (by decide +kernel)
set_option maxRecDepth 100000 in
theorem am_k_48 : ∀ pc e, am_c48 pc = some e → am_chk cX5_add 5 pc e = true := am_kall (N := 37) (fun _ => rfl) (by decide +kernel)
set_option maxRecDepth 100000 in
theorem am_k_49 : ∀ pc e, am_c49 pc = some e → am_chk cX5_clear 5 pc e = true := am_kall (N := 6) (fun _ => rfl) (by decide +kernel)
set_option maxRecDepth 100000 in
theorem am_k_50 : ∀ pc e, am_c50 pc = some e → am_chk cX5_parse 5 pc e = true := am_kall (N := 110) (fun _ => rfl) (by decide +kernel)
set_option maxRecDepth 100000 in
theorem am_k_51 : ∀ pc e, am_c51 pc = some e → am_chk cX5_parseName 5 pc e = true := am_kall (N := 66) (fun _ => rfl) (by decide +kernel)
set_option maxRecDepth 100000 in
theorem am_k_52 : ∀ pc e, am_c52 pc = some e → am_chk cX5_kindFrom 5 pc e = true := am_kall (N := 52) (fun _ => rfl) (by decide +kernel)
set_option maxRecDepth 100000 in
theorem am_k_53 : ∀ pc e, am_c53 pc = some e → am_chk cX5_isName 5 pc e = true := am_kall (N := 51) (fun _ => rfl) (by decide +kernel)
set_option maxRecDepth 100000 in
theorem am_k_54 : ∀ pc e, am_c54 pc = some e → am_chk cX5_parseSounds 5 pc e = true := am_kall (N := 45) (fun _ => rfl) (by decide +kernel)
set_option maxRecDepth 100000 in
theorem am_k_55 : ∀ pc e, am_c55 pc = some e → am_chk cX5_parseSound 5 pc e = true := am_kall (N := 88) (fun _ => rfl) (by decide +kernel)
set_option maxRecDepth 100000 in
theorem am_k_56 : ∀ pc e, am_c56 pc = some e → am_chk cX5_takesComma 5 pc e = true := am_kall (N := 29) (fun _ => rfl) (by decide +kernel)
set_option maxRecDepth 100000 in
theorem am_k_57 : ∀ pc e, am_c57 pc = some e → am_chk cX5_parseWord 5 pc e = true := am_kall (N := 101) (fun _ => rfl) (by decide +kernel)
set_option maxRecDepth 100000 in
theorem am_k_58 : ∀ pc e, am_c58 pc = some e → am_chk cX5_parseFrame 5 pc e = true := am_kall (N := 25) (fun _ => rfl) (by decide +kernel)
set_option maxRecDepth 100000 in
theorem am_k_59 : ∀ pc e, am_c59 pc = some e → am_chk cX5_take 5 pc e = true := am_kall (N := 35) (fun _ => rfl) (by decide +kernel)
set_option maxRecDepth 100000 in
theorem am_k_60 : ∀ pc e, am_c60 pc = some e → am_chk cX5_figure 5 pc e = true := am_kall (N := 54) (fun _ => rfl) (by decide +kernel)
set_option maxRecDepth 100000 in
theorem am_k_61 : ∀ pc e, am_c61 pc = some e → am_chk cX5_number 5 pc e = true := am_kall (N := 71) (fun _ => rfl) (by decide +kernel)
set_option maxRecDepth 100000 in
theorem am_k_62 : ∀ pc e, am_c62 pc = some e → am_chk cX5_skipBlanks 5 pc e = true := am_kall (N := 39) (fun _ => rfl) (by decide +kernel)
set_option maxRecDepth 100000 in
theorem am_k_63 : ∀ pc e, am_c63 pc = some e → am_chk cX5_stands 5 pc e = true := am_kall (N := 43) (fun _ => rfl) (by decide +kernel)
set_option maxRecDepth 100000 in
theorem am_k_64 : ∀ pc e, am_c64 pc = some e → am_chk cX5_fail 5 pc e = true := am_kall (N := 13) (fun _ => rfl) (by decide +kernel)
set_option maxRecDepth 100000 in
theorem am_k_65 : ∀ pc e, am_c65 pc = some e → am_chk cX6_init 6 pc e = true := am_kall (N := 132) (fun _ => rfl) (by decide +kernel)
set_option maxRecDepth 100000 in
theorem am_k_66 : ∀ pc e, am_c66 pc = some e → am_chk cX6_shape 6 pc e = true := am_kall (N := 26) (fun _ => rfl) (by decide +kernel)
set_option maxRecDepth 100000 in
theorem am_k_67 : ∀ pc e, am_c67 pc = some e → am_chk cX6_sign 6 pc e = true := am_kall (N := 26) (fun _ => rfl) (by decide +kernel)
set_option maxRecDepth 100000 in
theorem am_k_68 : ∀ pc e, am_c68 pc = some e → am_chk cX6_sound 6 pc e = true := am_kall (N := 25) (fun _ => rfl) (by decide +kernel)
set_option maxRecDepth 100000 in
theorem am_k_69 : ∀ pc e, am_c69 pc = some e → am_chk cX6_out 6 pc e = true := am_kall (N := 24) (fun _ => rfl) (by decide +kernel)
set_option maxRecDepth 100000 in
theorem am_k_70 : ∀ pc e, am_c70 pc = some e → am_chk cX6_frame 6 pc e = true := am_kall (N := 25) (fun _ => rfl) (by decide +kernel)
set_option maxRecDepth 100000 in
theorem am_k_71 : ∀ pc e, am_c71 pc = some e → am_chk cX6_window 6 pc e = true := am_kall (N := 24) (fun _ => rfl) (by decide +kernel)
set_option maxRecDepth 100000 in
theorem am_k_72 : ∀ pc e, am_c72 pc = some e → am_chk cX6_told 6 pc e = true := am_kall (N := 107) (fun _ => rfl) (by decide +kernel)
set_option maxRecDepth 100000 in
theorem am_k_73 : ∀ pc e, am_c73 pc = some e → am_chk cX6_sounds 6 pc e = true := am_kall (N := 142) (fun _ => rfl) (by decide +kernel)
set_option maxRecDepth 100000 in
theorem am_k_74 : ∀ pc e, am_c74 pc = some e → am_chk cX6_at 6 pc e = true := am_kall (N := 78) (fun _ => rfl) (by decide +kernel)
set_option maxRecDepth 100000 in
theorem am_k_75 : ∀ pc e, am_c75 pc = some e → am_chk cX6_count 6 pc e = true := am_kall (N := 184) (fun _ => rfl) (by decide +kernel)
set_option maxRecDepth 100000 in
theorem am_k_76 : ∀ pc e, am_c76 pc = some e → am_chk cX6_pulled 6 pc e = true := am_kall (N := 51) (fun _ => rfl) (by decide +kernel)
set_option maxRecDepth 100000 in
theorem am_k_77 : ∀ pc e, am_c77 pc = some e → am_chk cX6_smooth 6 pc e = true := am_kall (N := 85) (fun _ => rfl) (by decide +kernel)
set_option maxRecDepth 100000 in
theorem am_k_78 : ∀ pc e, am_c78 pc = some e → am_chk cX6_jump 6 pc e = true := am_kall (N := 67) (fun _ => rfl) (by decide +kernel)
set_option maxRecDepth 100000 in
theorem am_k_79 : ∀ pc e, am_c79 pc = some e → am_chk cX6_calm 6 pc e = true := am_kall (N := 82) (fun _ => rfl) (by decide +kernel)
set_option maxRecDepth 100000 in
theorem am_k_80 : ∀ pc e, am_c80 pc = some e → am_chk cX6_off 6 pc e = true := am_kall (N := 83) (fun _ => rfl) (by decide +kernel)
set_option maxRecDepth 100000 in
theorem am_k_81 : ∀ pc e, am_c81 pc = some e → am_chk cX6_forget 6 pc e = true := am_kall (N := 24) (fun _ => rfl) (by decide +kernel)
set_option maxRecDepth 100000 in
theorem am_k_82 : ∀ pc e, am_c82 pc = some e → am_chk cX6_word 6 pc e = true := am_kall (N := 128) (fun _ => rfl) (by decide +kernel)
set_option maxRecDepth 100000 in
theorem am_k_83 : ∀ pc e, am_c83 pc = some e → am_chk cX6_letter 6 pc e = true := am_kall (N := 53) (fun _ => rfl) (by decide +kernel)
set_option maxRecDepth 100000 in
theorem am_k_84 : ∀ pc e, am_c84 pc = some e → am_chk cX6_guess 6 pc e = true := am_kall (N := 44) (fun _ => rfl) (by decide +kernel)
set_option maxRecDepth 100000 in
theorem am_k_85 : ∀ pc e, am_c85 pc = some e → am_chk cX6_type 6 pc e = true := am_kall (N := 22) (fun _ => rfl) (by decide +kernel)
set_option maxRecDepth 100000 in
theorem am_k_86 : ∀ pc e, am_c86 pc = some e → am_chk cX6_read 6 pc e = true := am_kall (N := 55) (fun _ => rfl) (by decide +kernel)
set_option maxRecDepth 100000 in
theorem am_k_87 : ∀ pc e, am_c87 pc = some e → am_chk cX6_drift 6 pc e = true := am_kall (N := 51) (fun _ => rfl) (by decide +kernel)
set_option maxRecDepth 100000 in
theorem am_k_88 : ∀ pc e, am_c88 pc = some e → am_chk cX6_undo 6 pc e = true := am_kall (N := 32) (fun _ => rfl) (by decide +kernel)
set_option maxRecDepth 100000 in
theorem am_k_89 : ∀ pc e, am_c89 pc = some e → am_chk cX6_seed 6 pc e = true := am_kall (N := 24) (fun _ => rfl) (by decide +kernel)
set_option maxRecDepth 100000 in
theorem am_k_90 : ∀ pc e, am_c90 pc = some e → am_chk cX6_image 6 pc e = true := am_kall (N := 29) (fun _ => rfl) (by decide +kernel)
set_option maxRecDepth 100000 in
theorem am_k_91 : ∀ pc e, am_c91 pc = some e → am_chk cX6_restore 6 pc e = true := am_kall (N := 34) (fun _ => rfl) (by decide +kernel)
set_option maxRecDepth 100000 in
theorem am_k_92 : ∀ pc e, am_c92 pc = some e → am_chk cX6_seen 6 pc e = true := am_kall (N := 81) (fun _ => rfl) (by decide +kernel)
set_option maxRecDepth 100000 in
theorem am_k_93 : ∀ pc e, am_c93 pc = some e → am_chk cX6_film 6 pc e = true := am_kall (N := 103) (fun _ => rfl) (by decide +kernel)
set_option maxRecDepth 100000 in
theorem am_k_94 : ∀ pc e, am_c94 pc = some e → am_chk cX6_sheet 6 pc e = true := am_kall (N := 44) (fun _ => rfl) (by decide +kernel)
set_option maxRecDepth 100000 in
theorem am_k_95 : ∀ pc e, am_c95 pc = some e → am_chk cX6_drop 6 pc e = true := am_kall (N := 44) (fun _ => rfl) (by decide +kernel)
set_option maxRecDepth 100000 in
theorem am_k_96 : ∀ pc e, am_c96 pc = some e → am_chk cX6_item 6 pc e = true := am_kall (N := 47) (fun _ => rfl) (by decide +kernel)
set_option maxRecDepth 100000 in
theorem am_k_97 : ∀ pc e, am_c97 pc = some e → am_chk cX6_item 6 pc e = true := am_kall (N := 47) (fun _ => rfl) (by decide +kernel)
set_option maxRecDepth 100000 in
theorem am_k_98 : ∀ pc e, am_c98 pc = some e → am_chk cX6_known 6 pc e = true := am_kall (N := 17) (fun _ => rfl) (by decide +kernel)
set_option maxRecDepth 100000 in
theorem am_k_99 : ∀ pc e, am_c99 pc = some e → am_chk cX6_tellText 6 pc e = true := am_kall (N := 133) (fun _ => rfl) (by decide +kernel)
set_option maxRecDepth 100000 in
theorem am_k_100 : ∀ pc e, am_c100 pc = some e → am_chk cX6_refusedRow 6 pc e = true := am_kall (N := 53) (fun _ => rfl) (by decide +kernel)
set_option maxRecDepth 100000 in
theorem am_k_101 : ∀ pc e, am_c101 pc = some e → am_chk cX6_within 6 pc e = true := am_kall (N := 16) (fun _ => rfl) (by decide +kernel)
set_option maxRecDepth 100000 in
theorem am_k_102 : ∀ pc e, am_c102 pc = some e → am_chk cX6_isAxis 6 pc e = true := am_kall (N := 15) (fun _ => rfl) (by decide +kernel)
set_option maxRecDepth 100000 in
theorem am_k_103 : ∀ pc e, am_c103 pc = some e → am_chk cX6_isPart 6 pc e = true := am_kall (N := 15) (fun _ => rfl) (by decide +kernel)
set_option maxRecDepth 100000 in
theorem am_k_104 : ∀ pc e, am_c104 pc = some e → am_chk cX6_isSheet 6 pc e = true := am_kall (N := 7) (fun _ => rfl) (by decide +kernel)
set_option maxRecDepth 100000 in
theorem am_k_105 : ∀ pc e, am_c105 pc = some e → am_chk cX6_fraction 6 pc e = true := am_kall (N := 19) (fun _ => rfl) (by decide +kernel)
set_option maxRecDepth 100000 in
theorem am_k_106 : ∀ pc e, am_c106 pc = some e → am_chk cX6_quotient 6 pc e = true := am_kall (N := 14) (fun _ => rfl) (by decide +kernel)
set_option maxRecDepth 100000 in
theorem am_k_107 : ∀ pc e, am_c107 pc = some e → am_chk cX6_commonDivisor 6 pc e = true := am_kall (N := 34) (fun _ => rfl) (by decide +kernel)
set_option maxRecDepth 100000 in
theorem am_k_108 : ∀ pc e, am_c108 pc = some e → am_chk cX6_lookAnd 6 pc e = true := am_kall (N := 35) (fun _ => rfl) (by decide +kernel)
set_option maxRecDepth 100000 in
theorem am_k_109 : ∀ pc e, am_c109 pc = some e → am_chk cX6_lookLength 6 pc e = true := am_kall (N := 27) (fun _ => rfl) (by decide +kernel)
set_option maxRecDepth 100000 in
theorem am_k_110 : ∀ pc e, am_c110 pc = some e → am_chk cX6_leastOf 6 pc e = true := am_kall (N := 27) (fun _ => rfl) (by decide +kernel)
set_option maxRecDepth 100000 in
theorem am_k_111 : ∀ pc e, am_c111 pc = some e → am_chk cJ6_bitCount_0f7a4 9 pc e = true := am_kall (N := 53) (fun _ => rfl) (by decide +kernel)
def am_rok (r : AR) : Prop := ∀ pc e, r.2.2.2.2.2.2.2 pc = some e → am_chk r.2.1 r.2.2.2.2.1 pc e = true
theorem am_all_0 : ∀ r ∈ (am_all.drop 0).take 16, am_rok r := List.forall_mem_cons.mpr ⟨am_k_0, List.forall_mem_cons.mpr ⟨am_k_1, List.forall_mem_cons.mpr ⟨am_k_2, List.forall_mem_cons.mpr ⟨am_k_3, List.forall_mem_cons.mpr ⟨am_k_4, List.forall_mem_cons.mpr ⟨am_k_5, List.forall_mem_cons.mpr ⟨am_k_6, List.forall_mem_cons.mpr ⟨am_k_7, List.forall_mem_cons.mpr ⟨am_k_8, List.forall_mem_cons.mpr ⟨am_k_9, List.forall_mem_cons.mpr ⟨am_k_10, List.forall_mem_cons.mpr ⟨am_k_11, List.forall_mem_cons.mpr ⟨am_k_12, List.forall_mem_cons.mpr ⟨am_k_13, List.forall_mem_cons.mpr ⟨am_k_14, List.forall_mem_cons.mpr ⟨am_k_15, fun _ h => absurd h List.not_mem_nil⟩⟩⟩⟩⟩⟩⟩⟩⟩⟩⟩⟩⟩⟩⟩⟩
theorem am_all_16 : ∀ r ∈ (am_all.drop 16).take 16, am_rok r := List.forall_mem_cons.mpr ⟨am_k_16, List.forall_mem_cons.mpr ⟨am_k_17, List.forall_mem_cons.mpr ⟨am_k_18, List.forall_mem_cons.mpr ⟨am_k_19, List.forall_mem_cons.mpr ⟨am_k_20, List.forall_mem_cons.mpr ⟨am_k_21, List.forall_mem_cons.mpr ⟨am_k_22, List.forall_mem_cons.mpr ⟨am_k_23, List.forall_mem_cons.mpr ⟨am_k_24, List.forall_mem_cons.mpr ⟨am_k_25, List.forall_mem_cons.mpr ⟨am_k_26, List.forall_mem_cons.mpr ⟨am_k_27, List.forall_mem_cons.mpr ⟨am_k_28, List.forall_mem_cons.mpr ⟨am_k_29, List.forall_mem_cons.mpr ⟨am_k_30, List.forall_mem_cons.mpr ⟨am_k_31, fun _ h => absurd h List.not_mem_nil⟩⟩⟩⟩⟩⟩⟩⟩⟩⟩⟩⟩⟩⟩⟩⟩
theorem am_all_32 : ∀ r ∈ (am_all.drop 32).take 16, am_rok r := List.forall_mem_cons.mpr ⟨am_k_32, List.forall_mem_cons.mpr ⟨am_k_33, List.forall_mem_cons.mpr ⟨am_k_34, List.forall_mem_cons.mpr ⟨am_k_35, List.forall_mem_cons.mpr ⟨am_k_36, List.forall_mem_cons.mpr ⟨am_k_37, List.forall_mem_cons.mpr ⟨am_k_38, List.forall_mem_cons.mpr ⟨am_k_39, List.forall_mem_cons.mpr ⟨am_k_40, List.forall_mem_cons.mpr ⟨am_k_41, List.forall_mem_cons.mpr ⟨am_k_42, List.forall_mem_cons.mpr ⟨am_k_43, List.forall_mem_cons.mpr ⟨am_k_44, List.forall_mem_cons.mpr ⟨am_k_45, List.forall_mem_cons.mpr ⟨am_k_46, List.forall_mem_cons.mpr ⟨am_k_47, fun _ h => absurd h List.not_mem_nil⟩⟩⟩⟩⟩⟩⟩⟩⟩⟩⟩⟩⟩⟩⟩⟩
theorem am_all_48 : ∀ r ∈ (am_all.drop 48).take 16, am_rok r := List.forall_mem_cons.mpr ⟨am_k_48, List.forall_mem_cons.mpr ⟨am_k_49, List.forall_mem_cons.mpr ⟨am_k_50, List.forall_mem_cons.mpr ⟨am_k_51, List.forall_mem_cons.mpr ⟨am_k_52, List.forall_mem_cons.mpr ⟨am_k_53, List.forall_mem_cons.mpr ⟨am_k_54, List.forall_mem_cons.mpr ⟨am_k_55, List.forall_mem_cons.mpr ⟨am_k_56, List.forall_mem_cons.mpr ⟨am_k_57, List.forall_mem_cons.mpr ⟨am_k_58, List.forall_mem_cons.mpr ⟨am_k_59, List.forall_mem_cons.mpr ⟨am_k_60, List.forall_mem_cons.mpr ⟨am_k_61, List.forall_mem_cons.mpr ⟨am_k_62, List.forall_mem_cons.mpr ⟨am_k_63, fun _ h => absurd h List.not_mem_nil⟩⟩⟩⟩⟩⟩⟩⟩⟩⟩⟩⟩⟩⟩⟩⟩
theorem am_all_64 : ∀ r ∈ (am_all.drop 64).take 16, am_rok r := List.forall_mem_cons.mpr ⟨am_k_64, List.forall_mem_cons.mpr ⟨am_k_65, List.forall_mem_cons.mpr ⟨am_k_66, List.forall_mem_cons.mpr ⟨am_k_67, List.forall_mem_cons.mpr ⟨am_k_68, List.forall_mem_cons.mpr ⟨am_k_69, List.forall_mem_cons.mpr ⟨am_k_70, List.forall_mem_cons.mpr ⟨am_k_71, List.forall_mem_cons.mpr ⟨am_k_72, List.forall_mem_cons.mpr ⟨am_k_73, List.forall_mem_cons.mpr ⟨am_k_74, List.forall_mem_cons.mpr ⟨am_k_75, List.forall_mem_cons.mpr ⟨am_k_76, List.forall_mem_cons.mpr ⟨am_k_77, List.forall_mem_cons.mpr ⟨am_k_78, List.forall_mem_cons.mpr ⟨am_k_79, fun _ h => absurd h List.not_mem_nil⟩⟩⟩⟩⟩⟩⟩⟩⟩⟩⟩⟩⟩⟩⟩⟩
theorem am_all_80 : ∀ r ∈ (am_all.drop 80).take 16, am_rok r := List.forall_mem_cons.mpr ⟨am_k_80, List.forall_mem_cons.mpr ⟨am_k_81, List.forall_mem_cons.mpr ⟨am_k_82, List.forall_mem_cons.mpr ⟨am_k_83, List.forall_mem_cons.mpr ⟨am_k_84, List.forall_mem_cons.mpr ⟨am_k_85, List.forall_mem_cons.mpr ⟨am_k_86, List.forall_mem_cons.mpr ⟨am_k_87, List.forall_mem_cons.mpr ⟨am_k_88, List.forall_mem_cons.mpr ⟨am_k_89, List.forall_mem_cons.mpr ⟨am_k_90, List.forall_mem_cons.mpr ⟨am_k_91, List.forall_mem_cons.mpr ⟨am_k_92, List.forall_mem_cons.mpr ⟨am_k_93, List.forall_mem_cons.mpr ⟨am_k_94, List.forall_mem_cons.mpr ⟨am_k_95, fun _ h => absurd h List.not_mem_nil⟩⟩⟩⟩⟩⟩⟩⟩⟩⟩⟩⟩⟩⟩⟩⟩
theorem am_all_96 : ∀ r ∈ (am_all.drop 96).take 16, am_rok r := List.forall_mem_cons.mpr ⟨am_k_96, List.forall_mem_cons.mpr ⟨am_k_97, List.forall_mem_cons.mpr ⟨am_k_98, List.forall_mem_cons.mpr ⟨am_k_99, List.forall_mem_cons.mpr ⟨am_k_100, List.forall_mem_cons.mpr ⟨am_k_101, List.forall_mem_cons.mpr ⟨am_k_102, List.forall_mem_cons.mpr ⟨am_k_103, List.forall_mem_cons.mpr ⟨am_k_104, List.forall_mem_cons.mpr ⟨am_k_105, List.forall_mem_cons.mpr ⟨am_k_106, List.forall_mem_cons.mpr ⟨am_k_107, List.forall_mem_cons.mpr ⟨am_k_108, List.forall_mem_cons.mpr ⟨am_k_109, List.forall_mem_cons.mpr ⟨am_k_110, List.forall_mem_cons.mpr ⟨am_k_111, fun _ h => absurd h List.not_mem_nil⟩⟩⟩⟩⟩⟩⟩⟩⟩⟩⟩⟩⟩⟩⟩⟩
