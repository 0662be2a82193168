/-! the methods walked, by program (wip/p35/sym.py) -/
set_option maxRecDepth 100000 in
set_option maxHeartbeats 4000000 in
theorem T112_0 {S L : Nat} {F G : Nat → Nat → Int} {h : Nat → Nat → Option Nat} (hh : RfH h) {a1 : Int}  {Q : Option V2 → W2 → Prop}
    (H : (R32 a1 ∧
 R32 (L : Int) ∧
 (if (L : Int) ≤ a1 then
  Q (some (vi ((Int32.ofInt ((7368787 * a1) + 1013) &&& Int32.ofInt 2147483647).toInt))) (Wd S L F G h)
 else
  ((0 ≤ a1 ∧ a1 < (L : Int)) ∧
  Q (some (vi ((Int32.ofInt (F 9999 a1.toNat) &&& Int32.ofInt 2147483647).toInt))) (Wd S L F G h))))) : C112_0 a1 (Wd S L F G h) Q := by
  obtain ⟨g1, H⟩ := H
  obtain ⟨g2, H⟩ := H
  refine pt112 (s' := (3, [some (vr 9999), some (vi a1)], [vi (L : Int), vi a1], (Wd S L F G h))) (by decide) [0, 0, 0] rfl ⟨trivial, rfl⟩ ?_
  by_cases c3 : (L : Int) ≤ a1
  · rw [if_pos c3] at H
    refine pt112 (s' := (23, [some (vr 9999), some (vi a1)], [vi ((Int32.ofInt ((7368787 * a1) + 1013) &&& Int32.ofInt 2147483647).toInt)], (Wd S L F G h))) (by decide) [1, 0, 0, 0, 0, 0, 0, 0] rfl ⟨trivial, ⟨⟨g1, g2⟩, c3⟩⟩ ?_
    exact wp.fin (v := some (vi ((Int32.ofInt ((7368787 * a1) + 1013) &&& Int32.ofInt 2147483647).toInt))) (by decide) am_m112 rfl ⟨_, rfl, Or.inl rfl, rfl⟩ H
  · rw [if_neg c3] at H
    obtain ⟨g4, H⟩ := H
    refine pt112 (s' := (23, [some (vr 9999), some (vi a1)], [vi ((Int32.ofInt (F 9999 a1.toNat) &&& Int32.ofInt 2147483647).toInt)], (Wd S L F G h))) (by decide) [0, 0, 0, 1, 0, 0, 0] rfl ⟨⟨trivial, ⟨⟨g1, g2⟩, c3⟩⟩, ⟨rfl, g1, g4.1, g4.2⟩⟩ ?_
    exact wp.fin (v := some (vi ((Int32.ofInt (F 9999 a1.toNat) &&& Int32.ofInt 2147483647).toInt))) (by decide) am_m112 rfl ⟨_, rfl, Or.inl rfl, rfl⟩ H
set_option maxRecDepth 100000 in
set_option maxHeartbeats 4000000 in
theorem T113_0 {S L : Nat} {F G : Nat → Nat → Int} {h : Nat → Nat → Option Nat} (hh : RfH h) {a0 : Int}  {Q : Option V2 → W2 → Prop}
    (H : C113_4 0 a0 (Wd S L F G h) Q) : C113_0 a0 (Wd S L F G h) Q := by
  refine pt113 (s' := (4, [some (vi a0), some (vi 0), some (vi a0)], [], (Wd S L F G h))) (by decide) [0, 0, 0, 0] rfl trivial ?_
  exact wp.weak (a := [none, some (vi 0), some (vi a0)]) ⟨rfl, rfl, trivial⟩ H
set_option maxRecDepth 100000 in
set_option maxHeartbeats 4000000 in
theorem T113_4 {S L : Nat} {F G : Nat → Nat → Int} {h : Nat → Nat → Option Nat} (hh : RfH h) {x1 : Int} {x2 : Int}  {Q : Option V2 → W2 → Prop}
    (H : (R32 x2 ∧
 (if x2 = 0 then
  Q (some (vi x1)) (Wd S L F G h)
 else
  C113_4 (x1 + 1) ((Int32.ofInt x2 &&& Int32.ofInt (x2 - 1)).toInt) (Wd S L F G h) Q))) : C113_4 x1 x2 (Wd S L F G h) Q := by
  obtain ⟨g1, H⟩ := H
  refine pt113 (s' := (5, [none, some (vi x1), some (vi x2)], [vi x2], (Wd S L F G h))) (by decide) [0] rfl trivial ?_
  by_cases c2 : x2 = 0
  · rw [if_pos c2] at H
    refine pt113 (s' := (21, [none, some (vi x1), some (vi x2)], [vi x1], (Wd S L F G h))) (by decide) [1, 0] rfl ⟨trivial, ⟨g1, c2⟩⟩ ?_
    exact wp.fin (v := some (vi x1)) (by decide) am_m113 rfl ⟨_, rfl, Or.inl rfl, rfl⟩ H
  · rw [if_neg c2] at H
    refine pt113 (s' := (4, [none, some (vi (x1 + 1)), some (vi ((Int32.ofInt x2 &&& Int32.ofInt (x2 - 1)).toInt))], [], (Wd S L F G h))) (by decide) [0, 0, 0, 0, 0, 0, 0, 0, 0] rfl ⟨trivial, ⟨g1, c2⟩⟩ ?_
    exact wp.weak (a := [none, some (vi (x1 + 1)), some (vi ((Int32.ofInt x2 &&& Int32.ofInt (x2 - 1)).toInt))]) ⟨rfl, rfl, trivial⟩ H
set_option maxRecDepth 100000 in
set_option maxHeartbeats 4000000 in
theorem T114_0 {S L : Nat} {F G : Nat → Nat → Int} {h : Nat → Nat → Option Nat} (hh : RfH h) {a0 : Int} {a1 : Int}  {Q : Option V2 → W2 → Prop}
    (H : (R64 a0 ∧
 (if 0 ≤ a0 then
  C114_17 a0 a1 (Wd S L F G h) Q
 else
  C114_17 (-a0) a1 (Wd S L F G h) Q))) : C114_0 a0 a1 (Wd S L F G h) Q := by
  obtain ⟨g1, H⟩ := H
  refine pt114 (s' := (3, [some (vj a0), none, some (vj a1), none, none, none, none, none, none, none], [vi (y_cmp a0 0)], (Wd S L F G h))) (by decide) [0, 0, 0] rfl ⟨trivial, (Or.inl ⟨g1, (by decide : R64 0)⟩)⟩ ?_
  by_cases c2 : 0 ≤ a0
  · rw [if_pos c2] at H
    refine pt114 (s' := (17, [some (vj a0), none, some (vj a1), none, some (vj a0), none, some (vj a1), none, none, none], [], (Wd S L F G h))) (by decide) [1, 0, 0, 0, 0] rfl ⟨trivial, ⟨y_cmp_r32, (y_cmp_ge.mpr c2)⟩⟩ ?_
    exact wp.weak (a := [none, none, none, none, some (vj a0), none, some (vj a1), none, none, none]) ⟨rfl, rfl, trivial⟩ H
  · rw [if_neg c2] at H
    refine pt114 (s' := (17, [some (vj a0), none, some (vj a1), none, some (vj (-a0)), none, some (vj a1), none, none, none], [], (Wd S L F G h))) (by decide) [0, 0, 0, 0, 0, 0, 0] rfl ⟨trivial, ⟨y_cmp_r32, (fun e => c2 (y_cmp_ge.mp e))⟩⟩ ?_
    exact wp.weak (a := [none, none, none, none, some (vj (-a0)), none, some (vj a1), none, none, none]) ⟨rfl, rfl, trivial⟩ H
set_option maxRecDepth 100000 in
set_option maxHeartbeats 4000000 in
theorem T114_17 {S L : Nat} {F G : Nat → Nat → Int} {h : Nat → Nat → Option Nat} (hh : RfH h) {x4 : Int} {x6 : Int}  {Q : Option V2 → W2 → Prop}
    (H : (R64 x6 ∧
 (if x6 = 0 then
  Q (some (vj x4)) (Wd S L F G h)
 else
  (((0 : Int) ≤ x4 ∧ (x4 : Int) ≤ 9223372036854775807 ∧ 0 < x6 ∧ x6 ≤ 9223372036854775807) ∧
  C114_17 x6 (x4 % x6) (Wd S L F G h) Q)))) : C114_17 x4 x6 (Wd S L F G h) Q := by
  obtain ⟨g1, H⟩ := H
  refine pt114 (s' := (21, [none, none, none, none, some (vj x4), none, some (vj x6), none, none, none], [vi (y_cmp x6 0)], (Wd S L F G h))) (by decide) [0, 0, 0] rfl ⟨trivial, (Or.inl ⟨g1, (by decide : R64 0)⟩)⟩ ?_
  by_cases c2 : x6 = 0
  · rw [if_pos c2] at H
    refine pt114 (s' := (44, [none, none, none, none, some (vj x4), none, some (vj x6), none, none, none], [vj x4], (Wd S L F G h))) (by decide) [1, 0] rfl ⟨trivial, ⟨y_cmp_r32, (y_cmp_eq.mpr c2)⟩⟩ ?_
    exact wp.fin (v := some (vj x4)) (by decide) am_m114 rfl ⟨_, rfl, rfl, rfl⟩ H
  · rw [if_neg c2] at H
    obtain ⟨g3, H⟩ := H
    refine pt114 (s' := (17, [none, none, none, none, some (vj x6), none, some (vj (x4 % x6)), none, some (vj (x4 % x6)), none], [], (Wd S L F G h))) (by decide) [0, 0, 0, 0, 0, 0, 0, 0, 0, 0] rfl ⟨⟨trivial, ⟨y_cmp_r32, (fun e => c2 (y_cmp_eq.mp e))⟩⟩, g3⟩ ?_
    exact wp.weak (a := [none, none, none, none, some (vj x6), none, some (vj (x4 % x6)), none, none, none]) ⟨rfl, rfl, trivial⟩ H
set_option maxRecDepth 100000 in
set_option maxHeartbeats 4000000 in
theorem T115_0 {S L : Nat} {F G : Nat → Nat → Int} {h : Nat → Nat → Option Nat} (hh : RfH h)   {Q : Option V2 → W2 → Prop}
    (H : C115_4 0 (Wd S L F G h) Q) : C115_0  (Wd S L F G h) Q := by
  refine pt115 (s' := (4, [some (vr 0), some (vr 9999), some (vi 1), some (vi 0), none, none, none, none], [], (Wd S L F G h))) (by decide) [0, 0, 0, 0] rfl trivial ?_
  exact wp.weak (a := [some (vr 0), some (vr 9999), some (vi 1), some (vi 0), none, none, none, none]) ⟨rfl, rfl, rfl, rfl, trivial⟩ H
set_option maxRecDepth 100000 in
set_option maxHeartbeats 4000000 in
theorem T115_4 {S L : Nat} {F G : Nat → Nat → Int} {h : Nat → Nat → Option Nat} (hh : RfH h) {x3 : Int}  {Q : Option V2 → W2 → Prop}
    (H : (R32 x3 ∧
 (if 4 ≤ x3 then
  C112_0 8 (Wd S L F G h) (fun v w1 => ∃ (v3 : Int), v = some (vi v3) ∧ w1 = (Wd S L F G h) ∧
   (((0 : Int) ≤ v3 ∧ v3 ≤ 2147483647) ∧
   C115_159 (1 + (v3 % 12)) 0 (Wd S L F G h) Q))
 else
  C112_0 x3 (Wd S L F G h) (fun v w1 => ∃ (v5 : Int), v = some (vi v5) ∧ w1 = (Wd S L F G h) ∧
   (((0 : Int) ≤ v5 ∧ v5 ≤ 2147483647) ∧
   ((0 : Int) ≤ (v5 / 8) ∧ (v5 / 8) ≤ 2147483647) ∧
   ((0 : Int) ≤ (v5 / 104) ∧ (v5 / 104) ≤ 2147483647) ∧
   C66_0 (v5 % 8) ((v5 / 8) % 13) ((v5 / 104) % 13) (Wd S L F G h) (fun v w1 => ∃ (v9 : Int) (F10 : Nat → Nat → Int) (h11 : Nat → Nat → Option Nat), v = some (vi v9) ∧ w1 = (Wd S L F10 G h11) ∧ RfH h11 ∧
    (R32 v9 ∧
    (if v9 = (-2) then
     C115_73 x3 (Wd S L F10 G h11) Q
    else
     (¬ (v9 < 0) ∧
     ¬ (169 ≤ v9) ∧
     C115_73 x3 (Wd S L F10 G h11) Q))))))))) : C115_4 x3 (Wd S L F G h) Q := by
  obtain ⟨g1, H⟩ := H
  refine pt115 (s' := (6, [some (vr 0), some (vr 9999), some (vi 1), some (vi x3), none, none, none, none], [vi 4, vi x3], (Wd S L F G h))) (by decide) [0, 0] rfl trivial ?_
  by_cases c2 : 4 ≤ x3
  · rw [if_pos c2] at H
    refine pt115 (s' := (148, [some (vr 0), some (vr 9999), some (vi 1), some (vi x3), none, none, none, none], [vi 8, vr 9999, vi 1], (Wd S L F G h))) (by decide) [1, 0, 0, 0] rfl ⟨trivial, ⟨⟨g1, (by decide : R32 4)⟩, c2⟩⟩ ?_
    refine wp.cl am_m115 rfl am_m112 6 [vr 9999, vi 8] [vi 1] rfl (Nat.le_of_ble_eq_true rfl) ⟨(Nat.le_of_ble_eq_true rfl), (Nat.le_of_ble_eq_true rfl)⟩ rfl (Nat.le_of_ble_eq_true rfl) rfl (Nat.le_of_ble_eq_true rfl) (Nat.le_of_ble_eq_true rfl) trivial ?_
    refine wp.mono H ?_
    rintro v w1 ⟨v3, rfl, rfl, H⟩
    show wp 13 115 (151, [some (vr 0), some (vr 9999), some (vi 1), some (vi x3), none, none, none, none], [vi v3, vi 1], (Wd S L F G h)) _
    obtain ⟨g4, H⟩ := H
    refine pt115 (s' := (159, [some (vr 0), some (vr 9999), some (vi 1), some (vi (1 + (v3 % 12))), some (vi 0), none, none, none], [], (Wd S L F G h))) (by decide) [0, 0, 0, 0, 0, 0] rfl ⟨trivial, ⟨g4.1, g4.2, (by decide : (0 : Int) < 12), (by decide : (12 : Int) ≤ 2147483647)⟩⟩ ?_
    exact wp.weak (a := [some (vr 0), some (vr 9999), some (vi 1), some (vi (1 + (v3 % 12))), some (vi 0), none, none, none]) ⟨rfl, rfl, rfl, rfl, rfl, trivial⟩ H
  · rw [if_neg c2] at H
    refine pt115 (s' := (15, [some (vr 0), some (vr 9999), some (vi 1), some (vi x3), none, none, none, none], [vi x3, vr 9999], (Wd S L F G h))) (by decide) [0, 0, 0, 0, 0] rfl ⟨⟨trivial, ⟨⟨g1, (by decide : R32 4)⟩, c2⟩⟩, ⟨(by decide : R32 1), (by decide : ¬ (1 : Int) = (0 : Int))⟩⟩ ?_
    refine wp.cl am_m115 rfl am_m112 6 [vr 9999, vi x3] [] rfl (Nat.le_of_ble_eq_true rfl) ⟨(Nat.le_of_ble_eq_true rfl), (Nat.le_of_ble_eq_true rfl)⟩ rfl (Nat.le_of_ble_eq_true rfl) rfl (Nat.le_of_ble_eq_true rfl) (Nat.le_of_ble_eq_true rfl) trivial ?_
    refine wp.mono H ?_
    rintro v w1 ⟨v5, rfl, rfl, H⟩
    show wp 13 115 (18, [some (vr 0), some (vr 9999), some (vi 1), some (vi x3), none, none, none, none], [vi v5], (Wd S L F G h)) _
    obtain ⟨g6, H⟩ := H
    obtain ⟨g7, H⟩ := H
    obtain ⟨g8, H⟩ := H
    refine pt115 (s' := (42, [some (vr 0), some (vr 9999), some (vi 1), some (vi x3), some (vi v5), none, none, none], [vi ((v5 / 104) % 13), vi ((v5 / 8) % 13), vi (v5 % 8), vr 0], (Wd S L F G h))) (by decide) [0, 0, 0, 0, 0, 0, 0, 0, 0, 0, 0, 0, 0, 0, 0] rfl ⟨⟨⟨⟨⟨trivial, ⟨g6.1, g6.2, (by decide : (0 : Int) < 8), (by decide : (8 : Int) ≤ 2147483647)⟩⟩, ⟨g6.1, g6.2, (by decide : (0 : Int) < 8), (by decide : (8 : Int) ≤ 2147483647)⟩⟩, ⟨g7.1, g7.2, (by decide : (0 : Int) < 13), (by decide : (13 : Int) ≤ 2147483647)⟩⟩, ⟨g6.1, g6.2, (by decide : (0 : Int) < 104), (by decide : (104 : Int) ≤ 2147483647)⟩⟩, ⟨g8.1, g8.2, (by decide : (0 : Int) < 13), (by decide : (13 : Int) ≤ 2147483647)⟩⟩ ?_
    refine wp.cl am_m115 rfl am_m66 9 [vr 0, vi (v5 % 8), vi ((v5 / 8) % 13), vi ((v5 / 104) % 13)] [] rfl (Nat.le_of_ble_eq_true rfl) ⟨(Nat.le_of_ble_eq_true rfl), (Nat.le_of_ble_eq_true rfl)⟩ rfl (Nat.le_of_ble_eq_true rfl) rfl (Nat.le_of_ble_eq_true rfl) (Nat.le_of_ble_eq_true rfl) ⟨_, _, rfl, Nat.le_of_ble_eq_true rfl, rfl⟩ ?_
    refine wp.mono H ?_
    rintro v w1 ⟨v9, F10, h11, rfl, rfl, r12, H⟩
    show wp 13 115 (45, [some (vr 0), some (vr 9999), some (vi 1), some (vi x3), some (vi v5), none, none, none], [vi v9], (Wd S L F10 G h11)) _
    obtain ⟨g13, H⟩ := H
    refine pt115 (s' := (51, [some (vr 0), some (vr 9999), some (vi 1), some (vi x3), some (vi v5), some (vi v9), none, none], [vi (-2), vi v9], (Wd S L F10 G h11))) (by decide) [0, 0, 0] rfl trivial ?_
    by_cases c14 : v9 = (-2)
    · rw [if_pos c14] at H
      refine pt115 (s' := (73, [some (vr 0), some (vr 9999), some (vi 1), some (vi x3), some (vi v5), some (vi v9), none, none], [], (Wd S L F10 G h11))) (by decide) [1, 0, 0, 0] rfl ⟨trivial, ⟨⟨g13, (by decide : R32 (-2))⟩, c14⟩⟩ ?_
      exact wp.weak (a := [some (vr 0), some (vr 9999), some (vi 1), some (vi x3), none, none, none, none]) ⟨rfl, rfl, rfl, rfl, trivial⟩ H
    · rw [if_neg c14] at H
      obtain ⟨g15, H⟩ := H
      obtain ⟨g16, H⟩ := H
      refine pt115 (s' := (73, [some (vr 0), some (vr 9999), some (vi 1), some (vi x3), some (vi v5), some (vi v9), none, none], [], (Wd S L F10 G h11))) (by decide) [0, 0, 0, 0, 0, 0, 0, 0, 0] rfl ⟨⟨⟨trivial, ⟨⟨g13, (by decide : R32 (-2))⟩, c14⟩⟩, ⟨g13, g15⟩⟩, ⟨⟨g13, (by decide : R32 169)⟩, g16⟩⟩ ?_
      exact wp.weak (a := [some (vr 0), some (vr 9999), some (vi 1), some (vi x3), none, none, none, none]) ⟨rfl, rfl, rfl, rfl, trivial⟩ H
set_option maxRecDepth 100000 in
set_option maxHeartbeats 4000000 in
theorem T115_73 {S L : Nat} {F G : Nat → Nat → Int} {h : Nat → Nat → Option Nat} (hh : RfH h) {x3 : Int}  {Q : Option V2 → W2 → Prop}
    (H : C112_0 (4 + x3) (Wd S L F G h) (fun v w1 => ∃ (v1 : Int), v = some (vi v1) ∧ w1 = (Wd S L F G h) ∧
  (((0 : Int) ≤ v1 ∧ v1 ≤ 2147483647) ∧
  ((0 : Int) ≤ (v1 / 12) ∧ (v1 / 12) ≤ 2147483647) ∧
  ((0 : Int) ≤ (v1 / 96) ∧ (v1 / 96) ≤ 2147483647) ∧
  C67_0 (v1 % 12) ((v1 / 12) % 8) ((v1 / 96) % 6) (Wd S L F G h) (fun v w1 => ∃ (v5 : Int) (F6 : Nat → Nat → Int) (h7 : Nat → Nat → Option Nat), v = some (vi v5) ∧ w1 = (Wd S L F6 G h7) ∧ RfH h7 ∧
   (R32 v5 ∧
   (if v5 = (-2) then
    C115_4 (x3 + 1) (Wd S L F6 G h7) Q
   else
    (¬ (v5 < 0) ∧
    ¬ (48 ≤ v5) ∧
    C115_4 (x3 + 1) (Wd S L F6 G h7) Q))))))) : C115_73 x3 (Wd S L F G h) Q := by
  refine pt115 (s' := (77, [some (vr 0), some (vr 9999), some (vi 1), some (vi x3), none, none, none, none], [vi (4 + x3), vr 9999], (Wd S L F G h))) (by decide) [0, 0, 0, 0] rfl trivial ?_
  refine wp.cl am_m115 rfl am_m112 6 [vr 9999, vi (4 + x3)] [] rfl (Nat.le_of_ble_eq_true rfl) ⟨(Nat.le_of_ble_eq_true rfl), (Nat.le_of_ble_eq_true rfl)⟩ rfl (Nat.le_of_ble_eq_true rfl) rfl (Nat.le_of_ble_eq_true rfl) (Nat.le_of_ble_eq_true rfl) trivial ?_
  refine wp.mono H ?_
  rintro v w1 ⟨v1, rfl, rfl, H⟩
  show wp 13 115 (80, [some (vr 0), some (vr 9999), some (vi 1), some (vi x3), none, none, none, none], [vi v1], (Wd S L F G h)) _
  obtain ⟨g2, H⟩ := H
  obtain ⟨g3, H⟩ := H
  obtain ⟨g4, H⟩ := H
  refine pt115 (s' := (104, [some (vr 0), some (vr 9999), some (vi 1), some (vi x3), some (vi v1), none, none, none], [vi ((v1 / 96) % 6), vi ((v1 / 12) % 8), vi (v1 % 12), vr 0], (Wd S L F G h))) (by decide) [0, 0, 0, 0, 0, 0, 0, 0, 0, 0, 0, 0, 0, 0, 0] rfl ⟨⟨⟨⟨⟨trivial, ⟨g2.1, g2.2, (by decide : (0 : Int) < 12), (by decide : (12 : Int) ≤ 2147483647)⟩⟩, ⟨g2.1, g2.2, (by decide : (0 : Int) < 12), (by decide : (12 : Int) ≤ 2147483647)⟩⟩, ⟨g3.1, g3.2, (by decide : (0 : Int) < 8), (by decide : (8 : Int) ≤ 2147483647)⟩⟩, ⟨g2.1, g2.2, (by decide : (0 : Int) < 96), (by decide : (96 : Int) ≤ 2147483647)⟩⟩, ⟨g4.1, g4.2, (by decide : (0 : Int) < 6), (by decide : (6 : Int) ≤ 2147483647)⟩⟩ ?_
  refine wp.cl am_m115 rfl am_m67 9 [vr 0, vi (v1 % 12), vi ((v1 / 12) % 8), vi ((v1 / 96) % 6)] [] rfl (Nat.le_of_ble_eq_true rfl) ⟨(Nat.le_of_ble_eq_true rfl), (Nat.le_of_ble_eq_true rfl)⟩ rfl (Nat.le_of_ble_eq_true rfl) rfl (Nat.le_of_ble_eq_true rfl) (Nat.le_of_ble_eq_true rfl) ⟨_, _, rfl, Nat.le_of_ble_eq_true rfl, rfl⟩ ?_
  refine wp.mono H ?_
  rintro v w1 ⟨v5, F6, h7, rfl, rfl, r8, H⟩
  show wp 13 115 (107, [some (vr 0), some (vr 9999), some (vi 1), some (vi x3), some (vi v1), none, none, none], [vi v5], (Wd S L F6 G h7)) _
  obtain ⟨g9, H⟩ := H
  refine pt115 (s' := (117, [some (vr 0), some (vr 9999), some (vi 1), some (vi x3), some (vi v1), some (vi v5), none, none], [vi (-2), vi v5], (Wd S L F6 G h7))) (by decide) [0, 0, 0, 0, 0] rfl ⟨trivial, ⟨(by decide : R32 1), (by decide : ¬ (1 : Int) = (0 : Int))⟩⟩ ?_
  by_cases c10 : v5 = (-2)
  · rw [if_pos c10] at H
    refine pt115 (s' := (4, [some (vr 0), some (vr 9999), some (vi 1), some (vi (x3 + 1)), some (vi v1), some (vi v5), none, none], [], (Wd S L F6 G h7))) (by decide) [1, 0, 0, 0, 0, 0] rfl ⟨trivial, ⟨⟨g9, (by decide : R32 (-2))⟩, c10⟩⟩ ?_
    exact wp.weak (a := [some (vr 0), some (vr 9999), some (vi 1), some (vi (x3 + 1)), none, none, none, none]) ⟨rfl, rfl, rfl, rfl, trivial⟩ H
  · rw [if_neg c10] at H
    obtain ⟨g11, H⟩ := H
    obtain ⟨g12, H⟩ := H
    refine pt115 (s' := (4, [some (vr 0), some (vr 9999), some (vi 1), some (vi (x3 + 1)), some (vi v1), some (vi v5), none, none], [], (Wd S L F6 G h7))) (by decide) [0, 0, 0, 0, 0, 0, 0, 0, 0, 0, 0] rfl ⟨⟨⟨trivial, ⟨⟨g9, (by decide : R32 (-2))⟩, c10⟩⟩, ⟨g9, g11⟩⟩, ⟨⟨g9, (by decide : R32 48)⟩, g12⟩⟩ ?_
    exact wp.weak (a := [some (vr 0), some (vr 9999), some (vi 1), some (vi (x3 + 1)), none, none, none, none]) ⟨rfl, rfl, rfl, rfl, trivial⟩ H
set_option maxRecDepth 100000 in
set_option maxHeartbeats 4000000 in
theorem T115_159 {S L : Nat} {F G : Nat → Nat → Int} {h : Nat → Nat → Option Nat} (hh : RfH h) {x3 : Int} {x4 : Int}  {Q : Option V2 → W2 → Prop}
    (H : (R32 x4 ∧
 R32 x3 ∧
 (if x3 ≤ x4 then
  C112_0 13 (Wd S L F G h) (fun v w1 => ∃ (v4 : Int), v = some (vi v4) ∧ w1 = (Wd S L F G h) ∧
   (((0 : Int) ≤ v4 ∧ v4 ≤ 2147483647) ∧
   C112_0 13 (Wd S L F G h) (fun v w1 => ∃ (v6 : Int), v = some (vi v6) ∧ w1 = (Wd S L F G h) ∧
    (((0 : Int) ≤ v6 ∧ v6 ≤ 2147483647) ∧
    ((0 : Int) ≤ (v6 / 12) ∧ (v6 / 12) ≤ 2147483647) ∧
    C70_0 (1 + (v4 % 12)) (1 + ((v6 / 12) % 2)) (Wd S L F G h) (fun v w1 => ∃ (v9 : Int) (F10 : Nat → Nat → Int) (h11 : Nat → Nat → Option Nat), v = some (vi v9) ∧ w1 = (Wd S L F10 G h11) ∧ RfH h11 ∧
     (R32 v9 ∧
     (if v9 = 41 then
      C115_353 0 (Wd S L F10 G h11) Q
     else
      (if v9 = (-2) then
       C115_353 0 (Wd S L F10 G h11) Q
      else
       (v9 = (-3) ∧
       C115_353 0 (Wd S L F10 G h11) Q)))))))))
 else
  (((0 : Int) ≤ x4 ∧ x4 ≤ 2147483647) ∧
  C112_0 (9 + (x4 / 3)) (Wd S L F G h) (fun v w1 => ∃ (v18 : Int), v = some (vi v18) ∧ w1 = (Wd S L F G h) ∧
   (((0 : Int) ≤ v18 ∧ (v18 : Int) ≤ 2147483647 ∧ 0 < (1 + (148 * (x4 % 3))) ∧ (1 + (148 * (x4 % 3))) ≤ 2147483647) ∧
   C75_0 0 (Wd S L F G h) (fun v w1 => ∃ (v20 : Int) (F21 : Nat → Nat → Int), v = some (vi v20) ∧ w1 = (Wd S L F21 G h) ∧
    (((0 : Int) ≤ (v18 / (1 + (148 * (x4 % 3)))) ∧ (v18 / (1 + (148 * (x4 % 3)))) ≤ 2147483647) ∧
    R32 ((v18 / (1 + (148 * (x4 % 3)))) % 5) ∧
    (if 3 ≤ ((v18 / (1 + (148 * (x4 % 3)))) % 5) then
     (((0 : Int) ≤ ((v18 / (1 + (148 * (x4 % 3)))) / 12) ∧ ((v18 / (1 + (148 * (x4 % 3)))) / 12) ≤ 2147483647) ∧
     C68_0 ((v18 / (1 + (148 * (x4 % 3)))) % 12) (1 + (((v18 / (1 + (148 * (x4 % 3)))) / 12) % 12)) (Wd S L F21 G h) (fun v w1 => ∃ (v26 : Int) (F27 : Nat → Nat → Int) (h28 : Nat → Nat → Option Nat), v = some (vi v26) ∧ w1 = (Wd S L F27 G h28) ∧ RfH h28 ∧
      (R32 v26 ∧
      R32 v20 ∧
      (if v26 = v20 then
       C75_0 0 (Wd S L F27 G h28) (fun v w1 => ∃ (v33 : Int) (F34 : Nat → Nat → Int), v = some (vi v33) ∧ w1 = (Wd S L F34 G h28) ∧
        (R32 v33 ∧
        R32 (v20 + 1) ∧
        v33 = (v20 + 1) ∧
        C115_159 x3 (x4 + 1) (Wd S L F34 G h28) Q))
      else
       (v26 = (-3) ∧
       C75_0 0 (Wd S L F27 G h28) (fun v w1 => ∃ (v39 : Int) (F40 : Nat → Nat → Int), v = some (vi v39) ∧ w1 = (Wd S L F40 G h28) ∧
        (R32 v39 ∧
        v39 = v20 ∧
        C115_159 x3 (x4 + 1) (Wd S L F40 G h28) Q)))))))
    else
     (((0 : Int) ≤ ((v18 / (1 + (148 * (x4 % 3)))) / 12) ∧ ((v18 / (1 + (148 * (x4 % 3)))) / 12) ≤ 2147483647) ∧
     C68_0 ((v18 / (1 + (148 * (x4 % 3)))) % 12) (1 + (((v18 / (1 + (148 * (x4 % 3)))) / 12) % 3)) (Wd S L F21 G h) (fun v w1 => ∃ (v44 : Int) (F45 : Nat → Nat → Int) (h46 : Nat → Nat → Option Nat), v = some (vi v44) ∧ w1 = (Wd S L F45 G h46) ∧ RfH h46 ∧
      (R32 v44 ∧
      R32 v20 ∧
      (if v44 = v20 then
       C75_0 0 (Wd S L F45 G h46) (fun v w1 => ∃ (v51 : Int) (F52 : Nat → Nat → Int), v = some (vi v51) ∧ w1 = (Wd S L F52 G h46) ∧
        (R32 v51 ∧
        R32 (v20 + 1) ∧
        v51 = (v20 + 1) ∧
        C115_159 x3 (x4 + 1) (Wd S L F52 G h46) Q))
      else
       (v44 = (-3) ∧
       C75_0 0 (Wd S L F45 G h46) (fun v w1 => ∃ (v57 : Int) (F58 : Nat → Nat → Int), v = some (vi v57) ∧ w1 = (Wd S L F58 G h46) ∧
        (R32 v57 ∧
        v57 = v20 ∧
        C115_159 x3 (x4 + 1) (Wd S L F58 G h46) Q)))))))))))))))) : C115_159 x3 x4 (Wd S L F G h) Q := by
  obtain ⟨g1, H⟩ := H
  obtain ⟨g2, H⟩ := H
  refine pt115 (s' := (162, [some (vr 0), some (vr 9999), some (vi 1), some (vi x3), some (vi x4), none, none, none], [vi x3, vi x4], (Wd S L F G h))) (by decide) [0, 0] rfl trivial ?_
  by_cases c3 : x3 ≤ x4
  · rw [if_pos c3] at H
    refine pt115 (s' := (294, [some (vr 0), some (vr 9999), some (vi 1), some (vi x3), some (vi x4), none, none, none], [vi 13, vr 9999, vi 1, vr 0], (Wd S L F G h))) (by decide) [1, 0, 0, 0, 0] rfl ⟨trivial, ⟨⟨g1, g2⟩, c3⟩⟩ ?_
    refine wp.cl am_m115 rfl am_m112 6 [vr 9999, vi 13] [vi 1, vr 0] rfl (Nat.le_of_ble_eq_true rfl) ⟨(Nat.le_of_ble_eq_true rfl), (Nat.le_of_ble_eq_true rfl)⟩ rfl (Nat.le_of_ble_eq_true rfl) rfl (Nat.le_of_ble_eq_true rfl) (Nat.le_of_ble_eq_true rfl) trivial ?_
    refine wp.mono H ?_
    rintro v w1 ⟨v4, rfl, rfl, H⟩
    show wp 13 115 (297, [some (vr 0), some (vr 9999), some (vi 1), some (vi x3), some (vi x4), none, none, none], [vi v4, vi 1, vr 0], (Wd S L F G h)) _
    obtain ⟨g5, H⟩ := H
    refine pt115 (s' := (305, [some (vr 0), some (vr 9999), some (vi 1), some (vi x3), some (vi x4), none, none, none], [vi 13, vr 9999, vi 1, vi (1 + (v4 % 12)), vr 0], (Wd S L F G h))) (by decide) [0, 0, 0, 0, 0, 0] rfl ⟨trivial, ⟨g5.1, g5.2, (by decide : (0 : Int) < 12), (by decide : (12 : Int) ≤ 2147483647)⟩⟩ ?_
    refine wp.cl am_m115 rfl am_m112 6 [vr 9999, vi 13] [vi 1, vi (1 + (v4 % 12)), vr 0] rfl (Nat.le_of_ble_eq_true rfl) ⟨(Nat.le_of_ble_eq_true rfl), (Nat.le_of_ble_eq_true rfl)⟩ rfl (Nat.le_of_ble_eq_true rfl) rfl (Nat.le_of_ble_eq_true rfl) (Nat.le_of_ble_eq_true rfl) trivial ?_
    refine wp.mono H ?_
    rintro v w1 ⟨v6, rfl, rfl, H⟩
    show wp 13 115 (308, [some (vr 0), some (vr 9999), some (vi 1), some (vi x3), some (vi x4), none, none, none], [vi v6, vi 1, vi (1 + (v4 % 12)), vr 0], (Wd S L F G h)) _
    obtain ⟨g7, H⟩ := H
    obtain ⟨g8, H⟩ := H
    refine pt115 (s' := (314, [some (vr 0), some (vr 9999), some (vi 1), some (vi x3), some (vi x4), none, none, none], [vi (1 + ((v6 / 12) % 2)), vi (1 + (v4 % 12)), vr 0], (Wd S L F G h))) (by decide) [0, 0, 0, 0, 0] rfl ⟨⟨trivial, ⟨g7.1, g7.2, (by decide : (0 : Int) < 12), (by decide : (12 : Int) ≤ 2147483647)⟩⟩, ⟨g8.1, g8.2, (by decide : (0 : Int) < 2), (by decide : (2 : Int) ≤ 2147483647)⟩⟩ ?_
    refine wp.cl am_m115 rfl am_m70 9 [vr 0, vi (1 + (v4 % 12)), vi (1 + ((v6 / 12) % 2))] [] rfl (Nat.le_of_ble_eq_true rfl) ⟨(Nat.le_of_ble_eq_true rfl), (Nat.le_of_ble_eq_true rfl)⟩ rfl (Nat.le_of_ble_eq_true rfl) rfl (Nat.le_of_ble_eq_true rfl) (Nat.le_of_ble_eq_true rfl) ⟨_, _, rfl, Nat.le_of_ble_eq_true rfl, rfl⟩ ?_
    refine wp.mono H ?_
    rintro v w1 ⟨v9, F10, h11, rfl, rfl, r12, H⟩
    show wp 13 115 (317, [some (vr 0), some (vr 9999), some (vi 1), some (vi x3), some (vi x4), none, none, none], [vi v9], (Wd S L F10 G h11)) _
    obtain ⟨g13, H⟩ := H
    refine pt115 (s' := (327, [some (vr 0), some (vr 9999), some (vi 1), some (vi x3), some (vi v9), none, none, none], [vi 41, vi v9], (Wd S L F10 G h11))) (by decide) [0, 0, 0, 0, 0] rfl ⟨trivial, ⟨(by decide : R32 1), (by decide : ¬ (1 : Int) = (0 : Int))⟩⟩ ?_
    by_cases c14 : v9 = 41
    · rw [if_pos c14] at H
      refine pt115 (s' := (353, [some (vr 0), some (vr 9999), some (vi 1), some (vi x3), some (vi v9), some (vi 0), none, none], [], (Wd S L F10 G h11))) (by decide) [1, 0, 0, 0, 0, 0] rfl ⟨trivial, ⟨⟨g13, (by decide : R32 41)⟩, c14⟩⟩ ?_
      exact wp.weak (a := [some (vr 0), some (vr 9999), some (vi 1), none, none, some (vi 0), none, none]) ⟨rfl, rfl, rfl, rfl, trivial⟩ H
    · rw [if_neg c14] at H
      refine pt115 (s' := (334, [some (vr 0), some (vr 9999), some (vi 1), some (vi x3), some (vi v9), none, none, none], [vi (-2), vi v9], (Wd S L F10 G h11))) (by decide) [0, 0, 0] rfl ⟨trivial, ⟨⟨g13, (by decide : R32 41)⟩, c14⟩⟩ ?_
      by_cases c15 : v9 = (-2)
      · rw [if_pos c15] at H
        refine pt115 (s' := (353, [some (vr 0), some (vr 9999), some (vi 1), some (vi x3), some (vi v9), some (vi 0), none, none], [], (Wd S L F10 G h11))) (by decide) [1, 0, 0, 0, 0, 0] rfl ⟨trivial, ⟨⟨g13, (by decide : R32 (-2))⟩, c15⟩⟩ ?_
        exact wp.weak (a := [some (vr 0), some (vr 9999), some (vi 1), none, none, some (vi 0), none, none]) ⟨rfl, rfl, rfl, rfl, trivial⟩ H
      · rw [if_neg c15] at H
        obtain ⟨g16, H⟩ := H
        refine pt115 (s' := (353, [some (vr 0), some (vr 9999), some (vi 1), some (vi x3), some (vi v9), some (vi 0), none, none], [], (Wd S L F10 G h11))) (by decide) [0, 0, 0, 0, 0, 0, 0, 0, 0] rfl ⟨⟨trivial, ⟨⟨g13, (by decide : R32 (-2))⟩, c15⟩⟩, ⟨⟨g13, (by decide : R32 (-3))⟩, g16⟩⟩ ?_
        exact wp.weak (a := [some (vr 0), some (vr 9999), some (vi 1), none, none, some (vi 0), none, none]) ⟨rfl, rfl, rfl, rfl, trivial⟩ H
  · rw [if_neg c3] at H
    obtain ⟨g17, H⟩ := H
    refine pt115 (s' := (177, [some (vr 0), some (vr 9999), some (vi 1), some (vi x3), some (vi x4), none, none, none], [vi (9 + (x4 / 3)), vr 9999], (Wd S L F G h))) (by decide) [0, 0, 0, 0, 0, 0, 0, 0, 0] rfl ⟨⟨⟨trivial, ⟨⟨g1, g2⟩, c3⟩⟩, ⟨(by decide : R32 1), (by decide : ¬ (1 : Int) = (0 : Int))⟩⟩, ⟨g17.1, g17.2, (by decide : (0 : Int) < 3), (by decide : (3 : Int) ≤ 2147483647)⟩⟩ ?_
    refine wp.cl am_m115 rfl am_m112 6 [vr 9999, vi (9 + (x4 / 3))] [] rfl (Nat.le_of_ble_eq_true rfl) ⟨(Nat.le_of_ble_eq_true rfl), (Nat.le_of_ble_eq_true rfl)⟩ rfl (Nat.le_of_ble_eq_true rfl) rfl (Nat.le_of_ble_eq_true rfl) (Nat.le_of_ble_eq_true rfl) trivial ?_
    refine wp.mono H ?_
    rintro v w1 ⟨v18, rfl, rfl, H⟩
    show wp 13 115 (180, [some (vr 0), some (vr 9999), some (vi 1), some (vi x3), some (vi x4), none, none, none], [vi v18], (Wd S L F G h)) _
    obtain ⟨g19, H⟩ := H
    refine pt115 (s' := (195, [some (vr 0), some (vr 9999), some (vi 1), some (vi x3), some (vi x4), some (vi (v18 / (1 + (148 * (x4 % 3))))), none, none], [vi 0, vr 0], (Wd S L F G h))) (by decide) [0, 0, 0, 0, 0, 0, 0, 0, 0, 0, 0] rfl ⟨⟨trivial, ⟨g17.1, g17.2, (by decide : (0 : Int) < 3), (by decide : (3 : Int) ≤ 2147483647)⟩⟩, g19⟩ ?_
    refine wp.cl am_m115 rfl am_m75 11 [vr 0, vi 0] [] rfl (Nat.le_of_ble_eq_true rfl) ⟨(Nat.le_of_ble_eq_true rfl), (Nat.le_of_ble_eq_true rfl)⟩ rfl (Nat.le_of_ble_eq_true rfl) rfl (Nat.le_of_ble_eq_true rfl) (Nat.le_of_ble_eq_true rfl) ⟨_, _, rfl, Nat.le_of_ble_eq_true rfl, rfl⟩ ?_
    refine wp.mono H ?_
    rintro v w1 ⟨v20, F21, rfl, rfl, H⟩
    show wp 13 115 (198, [some (vr 0), some (vr 9999), some (vi 1), some (vi x3), some (vi x4), some (vi (v18 / (1 + (148 * (x4 % 3))))), none, none], [vi v20], (Wd S L F21 G h)) _
    obtain ⟨g22, H⟩ := H
    obtain ⟨g23, H⟩ := H
    refine pt115 (s' := (217, [some (vr 0), some (vr 9999), some (vi 1), some (vi x3), some (vi x4), some (vi (v18 / (1 + (148 * (x4 % 3))))), some (vi v20), none], [vi 3, vi ((v18 / (1 + (148 * (x4 % 3)))) % 5), vi ((v18 / (1 + (148 * (x4 % 3)))) / 12), vi 1, vi ((v18 / (1 + (148 * (x4 % 3)))) % 12), vr 0], (Wd S L F21 G h))) (by decide) [0, 0, 0, 0, 0, 0, 0, 0, 0, 0, 0, 0, 0] rfl ⟨⟨⟨trivial, ⟨g22.1, g22.2, (by decide : (0 : Int) < 12), (by decide : (12 : Int) ≤ 2147483647)⟩⟩, ⟨g22.1, g22.2, (by decide : (0 : Int) < 12), (by decide : (12 : Int) ≤ 2147483647)⟩⟩, ⟨g22.1, g22.2, (by decide : (0 : Int) < 5), (by decide : (5 : Int) ≤ 2147483647)⟩⟩ ?_
    by_cases c24 : 3 ≤ ((v18 / (1 + (148 * (x4 % 3)))) % 5)
    · rw [if_pos c24] at H
      obtain ⟨g25, H⟩ := H
      refine pt115 (s' := (228, [some (vr 0), some (vr 9999), some (vi 1), some (vi x3), some (vi x4), some (vi (v18 / (1 + (148 * (x4 % 3))))), some (vi v20), none], [vi (1 + (((v18 / (1 + (148 * (x4 % 3)))) / 12) % 12)), vi ((v18 / (1 + (148 * (x4 % 3)))) % 12), vr 0], (Wd S L F21 G h))) (by decide) [1, 0, 0, 0] rfl ⟨⟨trivial, ⟨⟨g23, (by decide : R32 3)⟩, c24⟩⟩, ⟨g25.1, g25.2, (by decide : (0 : Int) < 12), (by decide : (12 : Int) ≤ 2147483647)⟩⟩ ?_
      refine wp.cl am_m115 rfl am_m68 10 [vr 0, vi ((v18 / (1 + (148 * (x4 % 3)))) % 12), vi (1 + (((v18 / (1 + (148 * (x4 % 3)))) / 12) % 12))] [] rfl (Nat.le_of_ble_eq_true rfl) ⟨(Nat.le_of_ble_eq_true rfl), (Nat.le_of_ble_eq_true rfl)⟩ rfl (Nat.le_of_ble_eq_true rfl) rfl (Nat.le_of_ble_eq_true rfl) (Nat.le_of_ble_eq_true rfl) ⟨_, _, rfl, Nat.le_of_ble_eq_true rfl, rfl⟩ ?_
      refine wp.mono H ?_
      rintro v w1 ⟨v26, F27, h28, rfl, rfl, r29, H⟩
      show wp 13 115 (231, [some (vr 0), some (vr 9999), some (vi 1), some (vi x3), some (vi x4), some (vi (v18 / (1 + (148 * (x4 % 3))))), some (vi v20), none], [vi v26], (Wd S L F27 G h28)) _
      obtain ⟨g30, H⟩ := H
      obtain ⟨g31, H⟩ := H
      refine pt115 (s' := (237, [some (vr 0), some (vr 9999), some (vi 1), some (vi x3), some (vi x4), some (vi (v18 / (1 + (148 * (x4 % 3))))), some (vi v20), some (vi v26)], [vi v20, vi v26], (Wd S L F27 G h28))) (by decide) [0, 0, 0] rfl trivial ?_
      by_cases c32 : v26 = v20
      · rw [if_pos c32] at H
        refine pt115 (s' := (242, [some (vr 0), some (vr 9999), some (vi 1), some (vi x3), some (vi x4), some (vi (v18 / (1 + (148 * (x4 % 3))))), some (vi v20), some (vi v26)], [vi 0, vr 0], (Wd S L F27 G h28))) (by decide) [0, 0, 0] rfl ⟨trivial, ⟨⟨g30, g31⟩, c32⟩⟩ ?_
        refine wp.cl am_m115 rfl am_m75 11 [vr 0, vi 0] [] rfl (Nat.le_of_ble_eq_true rfl) ⟨(Nat.le_of_ble_eq_true rfl), (Nat.le_of_ble_eq_true rfl)⟩ rfl (Nat.le_of_ble_eq_true rfl) rfl (Nat.le_of_ble_eq_true rfl) (Nat.le_of_ble_eq_true rfl) ⟨_, _, rfl, Nat.le_of_ble_eq_true rfl, rfl⟩ ?_
        refine wp.mono H ?_
        rintro v w1 ⟨v33, F34, rfl, rfl, H⟩
        show wp 13 115 (245, [some (vr 0), some (vr 9999), some (vi 1), some (vi x3), some (vi x4), some (vi (v18 / (1 + (148 * (x4 % 3))))), some (vi v20), some (vi v26)], [vi v33], (Wd S L F34 G h28)) _
        obtain ⟨g35, H⟩ := H
        obtain ⟨g36, H⟩ := H
        obtain ⟨g37, H⟩ := H
        refine pt115 (s' := (159, [some (vr 0), some (vr 9999), some (vi 1), some (vi x3), some (vi (x4 + 1)), some (vi (v18 / (1 + (148 * (x4 % 3))))), some (vi v20), some (vi v26)], [], (Wd S L F34 G h28))) (by decide) [0, 0, 0, 0, 0, 0, 0, 0, 0] rfl ⟨trivial, ⟨⟨g35, g36⟩, g37⟩⟩ ?_
        exact wp.weak (a := [some (vr 0), some (vr 9999), some (vi 1), some (vi x3), some (vi (x4 + 1)), none, none, none]) ⟨rfl, rfl, rfl, rfl, rfl, trivial⟩ H
      · rw [if_neg c32] at H
        obtain ⟨g38, H⟩ := H
        refine pt115 (s' := (269, [some (vr 0), some (vr 9999), some (vi 1), some (vi x3), some (vi x4), some (vi (v18 / (1 + (148 * (x4 % 3))))), some (vi v20), some (vi v26)], [vi 0, vr 0], (Wd S L F27 G h28))) (by decide) [1, 0, 0, 0, 0, 0] rfl ⟨⟨trivial, ⟨⟨g30, g31⟩, c32⟩⟩, ⟨⟨g30, (by decide : R32 (-3))⟩, g38⟩⟩ ?_
        refine wp.cl am_m115 rfl am_m75 11 [vr 0, vi 0] [] rfl (Nat.le_of_ble_eq_true rfl) ⟨(Nat.le_of_ble_eq_true rfl), (Nat.le_of_ble_eq_true rfl)⟩ rfl (Nat.le_of_ble_eq_true rfl) rfl (Nat.le_of_ble_eq_true rfl) (Nat.le_of_ble_eq_true rfl) ⟨_, _, rfl, Nat.le_of_ble_eq_true rfl, rfl⟩ ?_
        refine wp.mono H ?_
        rintro v w1 ⟨v39, F40, rfl, rfl, H⟩
        show wp 13 115 (272, [some (vr 0), some (vr 9999), some (vi 1), some (vi x3), some (vi x4), some (vi (v18 / (1 + (148 * (x4 % 3))))), some (vi v20), some (vi v26)], [vi v39], (Wd S L F40 G h28)) _
        obtain ⟨g41, H⟩ := H
        obtain ⟨g42, H⟩ := H
        refine pt115 (s' := (159, [some (vr 0), some (vr 9999), some (vi 1), some (vi x3), some (vi (x4 + 1)), some (vi (v18 / (1 + (148 * (x4 % 3))))), some (vi v20), some (vi v26)], [], (Wd S L F40 G h28))) (by decide) [0, 0, 0, 0, 0, 0, 0] rfl ⟨trivial, ⟨⟨g41, g31⟩, g42⟩⟩ ?_
        exact wp.weak (a := [some (vr 0), some (vr 9999), some (vi 1), some (vi x3), some (vi (x4 + 1)), none, none, none]) ⟨rfl, rfl, rfl, rfl, rfl, trivial⟩ H
    · rw [if_neg c24] at H
      obtain ⟨g43, H⟩ := H
      refine pt115 (s' := (228, [some (vr 0), some (vr 9999), some (vi 1), some (vi x3), some (vi x4), some (vi (v18 / (1 + (148 * (x4 % 3))))), some (vi v20), none], [vi (1 + (((v18 / (1 + (148 * (x4 % 3)))) / 12) % 3)), vi ((v18 / (1 + (148 * (x4 % 3)))) % 12), vr 0], (Wd S L F21 G h))) (by decide) [0, 0, 0, 0, 0] rfl ⟨⟨trivial, ⟨⟨g23, (by decide : R32 3)⟩, c24⟩⟩, ⟨g43.1, g43.2, (by decide : (0 : Int) < 3), (by decide : (3 : Int) ≤ 2147483647)⟩⟩ ?_
      refine wp.cl am_m115 rfl am_m68 10 [vr 0, vi ((v18 / (1 + (148 * (x4 % 3)))) % 12), vi (1 + (((v18 / (1 + (148 * (x4 % 3)))) / 12) % 3))] [] rfl (Nat.le_of_ble_eq_true rfl) ⟨(Nat.le_of_ble_eq_true rfl), (Nat.le_of_ble_eq_true rfl)⟩ rfl (Nat.le_of_ble_eq_true rfl) rfl (Nat.le_of_ble_eq_true rfl) (Nat.le_of_ble_eq_true rfl) ⟨_, _, rfl, Nat.le_of_ble_eq_true rfl, rfl⟩ ?_
      refine wp.mono H ?_
      rintro v w1 ⟨v44, F45, h46, rfl, rfl, r47, H⟩
      show wp 13 115 (231, [some (vr 0), some (vr 9999), some (vi 1), some (vi x3), some (vi x4), some (vi (v18 / (1 + (148 * (x4 % 3))))), some (vi v20), none], [vi v44], (Wd S L F45 G h46)) _
      obtain ⟨g48, H⟩ := H
      obtain ⟨g49, H⟩ := H
      refine pt115 (s' := (237, [some (vr 0), some (vr 9999), some (vi 1), some (vi x3), some (vi x4), some (vi (v18 / (1 + (148 * (x4 % 3))))), some (vi v20), some (vi v44)], [vi v20, vi v44], (Wd S L F45 G h46))) (by decide) [0, 0, 0] rfl trivial ?_
      by_cases c50 : v44 = v20
      · rw [if_pos c50] at H
        refine pt115 (s' := (242, [some (vr 0), some (vr 9999), some (vi 1), some (vi x3), some (vi x4), some (vi (v18 / (1 + (148 * (x4 % 3))))), some (vi v20), some (vi v44)], [vi 0, vr 0], (Wd S L F45 G h46))) (by decide) [0, 0, 0] rfl ⟨trivial, ⟨⟨g48, g49⟩, c50⟩⟩ ?_
        refine wp.cl am_m115 rfl am_m75 11 [vr 0, vi 0] [] rfl (Nat.le_of_ble_eq_true rfl) ⟨(Nat.le_of_ble_eq_true rfl), (Nat.le_of_ble_eq_true rfl)⟩ rfl (Nat.le_of_ble_eq_true rfl) rfl (Nat.le_of_ble_eq_true rfl) (Nat.le_of_ble_eq_true rfl) ⟨_, _, rfl, Nat.le_of_ble_eq_true rfl, rfl⟩ ?_
        refine wp.mono H ?_
        rintro v w1 ⟨v51, F52, rfl, rfl, H⟩
        show wp 13 115 (245, [some (vr 0), some (vr 9999), some (vi 1), some (vi x3), some (vi x4), some (vi (v18 / (1 + (148 * (x4 % 3))))), some (vi v20), some (vi v44)], [vi v51], (Wd S L F52 G h46)) _
        obtain ⟨g53, H⟩ := H
        obtain ⟨g54, H⟩ := H
        obtain ⟨g55, H⟩ := H
        refine pt115 (s' := (159, [some (vr 0), some (vr 9999), some (vi 1), some (vi x3), some (vi (x4 + 1)), some (vi (v18 / (1 + (148 * (x4 % 3))))), some (vi v20), some (vi v44)], [], (Wd S L F52 G h46))) (by decide) [0, 0, 0, 0, 0, 0, 0, 0, 0] rfl ⟨trivial, ⟨⟨g53, g54⟩, g55⟩⟩ ?_
        exact wp.weak (a := [some (vr 0), some (vr 9999), some (vi 1), some (vi x3), some (vi (x4 + 1)), none, none, none]) ⟨rfl, rfl, rfl, rfl, rfl, trivial⟩ H
      · rw [if_neg c50] at H
        obtain ⟨g56, H⟩ := H
        refine pt115 (s' := (269, [some (vr 0), some (vr 9999), some (vi 1), some (vi x3), some (vi x4), some (vi (v18 / (1 + (148 * (x4 % 3))))), some (vi v20), some (vi v44)], [vi 0, vr 0], (Wd S L F45 G h46))) (by decide) [1, 0, 0, 0, 0, 0] rfl ⟨⟨trivial, ⟨⟨g48, g49⟩, c50⟩⟩, ⟨⟨g48, (by decide : R32 (-3))⟩, g56⟩⟩ ?_
        refine wp.cl am_m115 rfl am_m75 11 [vr 0, vi 0] [] rfl (Nat.le_of_ble_eq_true rfl) ⟨(Nat.le_of_ble_eq_true rfl), (Nat.le_of_ble_eq_true rfl)⟩ rfl (Nat.le_of_ble_eq_true rfl) rfl (Nat.le_of_ble_eq_true rfl) (Nat.le_of_ble_eq_true rfl) ⟨_, _, rfl, Nat.le_of_ble_eq_true rfl, rfl⟩ ?_
        refine wp.mono H ?_
        rintro v w1 ⟨v57, F58, rfl, rfl, H⟩
        show wp 13 115 (272, [some (vr 0), some (vr 9999), some (vi 1), some (vi x3), some (vi x4), some (vi (v18 / (1 + (148 * (x4 % 3))))), some (vi v20), some (vi v44)], [vi v57], (Wd S L F58 G h46)) _
        obtain ⟨g59, H⟩ := H
        obtain ⟨g60, H⟩ := H
        refine pt115 (s' := (159, [some (vr 0), some (vr 9999), some (vi 1), some (vi x3), some (vi (x4 + 1)), some (vi (v18 / (1 + (148 * (x4 % 3))))), some (vi v20), some (vi v44)], [], (Wd S L F58 G h46))) (by decide) [0, 0, 0, 0, 0, 0, 0] rfl ⟨trivial, ⟨⟨g59, g49⟩, g60⟩⟩ ?_
        exact wp.weak (a := [some (vr 0), some (vr 9999), some (vi 1), some (vi x3), some (vi (x4 + 1)), none, none, none]) ⟨rfl, rfl, rfl, rfl, rfl, trivial⟩ H
set_option maxRecDepth 100000 in
set_option maxHeartbeats 4000000 in
theorem T115_353 {S L : Nat} {F G : Nat → Nat → Int} {h : Nat → Nat → Option Nat} (hh : RfH h) {x5 : Int}  {Q : Option V2 → W2 → Prop}
    (H : (R32 x5 ∧
 (if 5 ≤ x5 then
  Q (some (vi 1)) (Wd S L F G h)
 else
  C112_0 (14 + x5) (Wd S L F G h) (fun v w1 => ∃ (v3 : Int), v = some (vi v3) ∧ w1 = (Wd S L F G h) ∧
   C112_0 (15 + x5) (Wd S L F G h) (fun v w1 => ∃ (v4 : Int), v = some (vi v4) ∧ w1 = (Wd S L F G h) ∧
    C116_0 v3 v4 (Wd S L F G h) (fun v w1 => ∃ (v5 : Int) (F6 : Nat → Nat → Int) (h7 : Nat → Nat → Option Nat), v = some (vi v5) ∧ w1 = (Wd S L F6 G h7) ∧ RfH h7 ∧
     (v5 = 1 ∧
     C115_353 (x5 + 1) (Wd S L F6 G h7) Q))))))) : C115_353 x5 (Wd S L F G h) Q := by
  obtain ⟨g1, H⟩ := H
  refine pt115 (s' := (356, [some (vr 0), some (vr 9999), some (vi 1), none, none, some (vi x5), none, none], [vi 5, vi x5], (Wd S L F G h))) (by decide) [0, 0] rfl trivial ?_
  by_cases c2 : 5 ≤ x5
  · rw [if_pos c2] at H
    refine pt115 (s' := (393, [some (vr 0), some (vr 9999), some (vi 1), none, none, some (vi x5), none, none], [vi 1], (Wd S L F G h))) (by decide) [1, 0] rfl ⟨trivial, ⟨⟨g1, (by decide : R32 5)⟩, c2⟩⟩ ?_
    exact wp.fin (v := some (vi 1)) (by decide) am_m115 rfl ⟨_, rfl, Or.inr ⟨rfl, Or.inr rfl⟩, rfl⟩ H
  · rw [if_neg c2] at H
    refine pt115 (s' := (370, [some (vr 0), some (vr 9999), some (vi 1), none, none, some (vi x5), none, none], [vi (14 + x5), vr 9999, vr 0], (Wd S L F G h))) (by decide) [0, 0, 0, 0, 0, 0, 0, 0] rfl ⟨⟨trivial, ⟨⟨g1, (by decide : R32 5)⟩, c2⟩⟩, ⟨(by decide : R32 1), (by decide : ¬ (1 : Int) = (0 : Int))⟩⟩ ?_
    refine wp.cl am_m115 rfl am_m112 6 [vr 9999, vi (14 + x5)] [vr 0] rfl (Nat.le_of_ble_eq_true rfl) ⟨(Nat.le_of_ble_eq_true rfl), (Nat.le_of_ble_eq_true rfl)⟩ rfl (Nat.le_of_ble_eq_true rfl) rfl (Nat.le_of_ble_eq_true rfl) (Nat.le_of_ble_eq_true rfl) trivial ?_
    refine wp.mono H ?_
    rintro v w1 ⟨v3, rfl, rfl, H⟩
    show wp 13 115 (373, [some (vr 0), some (vr 9999), some (vi 1), none, none, some (vi x5), none, none], [vi v3, vr 0], (Wd S L F G h)) _
    refine pt115 (s' := (379, [some (vr 0), some (vr 9999), some (vi 1), none, none, some (vi x5), none, none], [vi (15 + x5), vr 9999, vi v3, vr 0], (Wd S L F G h))) (by decide) [0, 0, 0, 0] rfl trivial ?_
    refine wp.cl am_m115 rfl am_m112 6 [vr 9999, vi (15 + x5)] [vi v3, vr 0] rfl (Nat.le_of_ble_eq_true rfl) ⟨(Nat.le_of_ble_eq_true rfl), (Nat.le_of_ble_eq_true rfl)⟩ rfl (Nat.le_of_ble_eq_true rfl) rfl (Nat.le_of_ble_eq_true rfl) (Nat.le_of_ble_eq_true rfl) trivial ?_
    refine wp.mono H ?_
    rintro v w1 ⟨v4, rfl, rfl, H⟩
    show wp 13 115 (382, [some (vr 0), some (vr 9999), some (vi 1), none, none, some (vi x5), none, none], [vi v4, vi v3, vr 0], (Wd S L F G h)) _
    refine wp.cl am_m115 rfl am_m116 12 [vr 0, vi v3, vi v4] [] rfl (Nat.le_of_ble_eq_true rfl) ⟨(Nat.le_of_ble_eq_true rfl), (Nat.le_of_ble_eq_true rfl)⟩ rfl (Nat.le_of_ble_eq_true rfl) rfl (Nat.le_of_ble_eq_true rfl) (Nat.le_of_ble_eq_true rfl) trivial ?_
    refine wp.mono H ?_
    rintro v w1 ⟨v5, F6, h7, rfl, rfl, r8, H⟩
    show wp 13 115 (385, [some (vr 0), some (vr 9999), some (vi 1), none, none, some (vi x5), none, none], [vi v5], (Wd S L F6 G h7)) _
    obtain ⟨rfl, H⟩ := H
    refine pt115 (s' := (353, [some (vr 0), some (vr 9999), some (vi 1), none, none, some (vi (x5 + 1)), none, none], [], (Wd S L F6 G h7))) (by decide) [0, 0, 0] rfl trivial ?_
    exact wp.weak (a := [some (vr 0), some (vr 9999), some (vi 1), none, none, some (vi (x5 + 1)), none, none]) ⟨rfl, rfl, rfl, rfl, trivial⟩ H
set_option maxRecDepth 100000 in
set_option maxHeartbeats 4000000 in
theorem T116_0 {S L : Nat} {F G : Nat → Nat → Int} {h : Nat → Nat → Option Nat} (hh : RfH h) {a1 : Int} {a2 : Int}  {Q : Option V2 → W2 → Prop}
    (H : (((0 : Int) ≤ a1 ∧ a1 ≤ 2147483647) ∧
 C75_0 9 (Wd S L F G h) (fun v w1 => ∃ (v2 : Int) (F3 : Nat → Nat → Int), v = some (vi v2) ∧ w1 = (Wd S L F3 G h) ∧
  C85_0 119 (Wd S L F3 G h) (fun v w1 => ∃ (v4 : Int) (F5 : Nat → Nat → Int), v = some (vi v4) ∧ w1 = (Wd S L F5 G h) ∧
   (R32 v4 ∧
   v4 = 1 ∧
   C85_0 111 (Wd S L F5 G h) (fun v w1 => ∃ (v8 : Int) (F9 : Nat → Nat → Int), v = some (vi v8) ∧ w1 = (Wd S L F9 G h) ∧
    (R32 v8 ∧
    v8 = 2 ∧
    C85_0 114 (Wd S L F9 G h) (fun v w1 => ∃ (v12 : Int) (F13 : Nat → Nat → Int), v = some (vi v12) ∧ w1 = (Wd S L F13 G h) ∧
     (R32 v12 ∧
     v12 = 3 ∧
     C85_0 100 (Wd S L F13 G h) (fun v w1 => ∃ (v16 : Int) (F17 : Nat → Nat → Int), v = some (vi v16) ∧ w1 = (Wd S L F17 G h) ∧
      (R32 v16 ∧
      v16 = 4 ∧
      ((0 : Int) ≤ (a1 / 6) ∧ (a1 / 6) ≤ 2147483647) ∧
      C85_0 (49 + ((a1 / 6) % 9)) (Wd S L F17 G h) (fun v w1 => ∃ (v21 : Int) (F22 : Nat → Nat → Int), v = some (vi v21) ∧ w1 = (Wd S L F22 G h) ∧
       (R32 v21 ∧
       v21 = 5 ∧
       C85_0 58 (Wd S L F22 G h) (fun v w1 => ∃ (v25 : Int) (F26 : Nat → Nat → Int), v = some (vi v25) ∧ w1 = (Wd S L F26 G h) ∧
        (R32 v25 ∧
        v25 = 6 ∧
        C116_94 a1 a2 (1 + (a1 % 6)) v2 0 (Wd S L F26 G h) Q))))))))))))))) : C116_0 a1 a2 (Wd S L F G h) Q := by
  obtain ⟨g1, H⟩ := H
  refine pt116 (s' := (10, [some (vr 0), some (vi a1), some (vi a2), some (vi (1 + (a1 % 6))), none, none, none, none, none, none], [vi 9, vr 0], (Wd S L F G h))) (by decide) [0, 0, 0, 0, 0, 0, 0, 0] rfl ⟨trivial, ⟨g1.1, g1.2, (by decide : (0 : Int) < 6), (by decide : (6 : Int) ≤ 2147483647)⟩⟩ ?_
  refine wp.cl am_m116 rfl am_m75 11 [vr 0, vi 9] [] rfl (Nat.le_of_ble_eq_true rfl) ⟨(Nat.le_of_ble_eq_true rfl), (Nat.le_of_ble_eq_true rfl)⟩ rfl (Nat.le_of_ble_eq_true rfl) rfl (Nat.le_of_ble_eq_true rfl) (Nat.le_of_ble_eq_true rfl) ⟨_, _, rfl, Nat.le_of_ble_eq_true rfl, rfl⟩ ?_
  refine wp.mono H ?_
  rintro v w1 ⟨v2, F3, rfl, rfl, H⟩
  show wp 12 116 (13, [some (vr 0), some (vi a1), some (vi a2), some (vi (1 + (a1 % 6))), none, none, none, none, none, none], [vi v2], (Wd S L F3 G h)) _
  refine pt116 (s' := (18, [some (vr 0), some (vi a1), some (vi a2), some (vi (1 + (a1 % 6))), some (vi v2), none, none, none, none, none], [vi 119, vr 0], (Wd S L F3 G h))) (by decide) [0, 0, 0] rfl trivial ?_
  refine wp.cl am_m116 rfl am_m85 7 [vr 0, vi 119] [] rfl (Nat.le_of_ble_eq_true rfl) ⟨(Nat.le_of_ble_eq_true rfl), (Nat.le_of_ble_eq_true rfl)⟩ rfl (Nat.le_of_ble_eq_true rfl) rfl (Nat.le_of_ble_eq_true rfl) (Nat.le_of_ble_eq_true rfl) ⟨_, _, rfl, Nat.le_of_ble_eq_true rfl, rfl⟩ ?_
  refine wp.mono H ?_
  rintro v w1 ⟨v4, F5, rfl, rfl, H⟩
  show wp 12 116 (21, [some (vr 0), some (vi a1), some (vi a2), some (vi (1 + (a1 % 6))), some (vi v2), none, none, none, none, none], [vi v4], (Wd S L F5 G h)) _
  obtain ⟨g6, H⟩ := H
  obtain ⟨g7, H⟩ := H
  refine pt116 (s' := (28, [some (vr 0), some (vi a1), some (vi a2), some (vi (1 + (a1 % 6))), some (vi v2), none, none, none, none, none], [vi 111, vr 0], (Wd S L F5 G h))) (by decide) [0, 0, 0, 0] rfl ⟨trivial, ⟨⟨g6, (by decide : R32 1)⟩, g7⟩⟩ ?_
  refine wp.cl am_m116 rfl am_m85 7 [vr 0, vi 111] [] rfl (Nat.le_of_ble_eq_true rfl) ⟨(Nat.le_of_ble_eq_true rfl), (Nat.le_of_ble_eq_true rfl)⟩ rfl (Nat.le_of_ble_eq_true rfl) rfl (Nat.le_of_ble_eq_true rfl) (Nat.le_of_ble_eq_true rfl) ⟨_, _, rfl, Nat.le_of_ble_eq_true rfl, rfl⟩ ?_
  refine wp.mono H ?_
  rintro v w1 ⟨v8, F9, rfl, rfl, H⟩
  show wp 12 116 (31, [some (vr 0), some (vi a1), some (vi a2), some (vi (1 + (a1 % 6))), some (vi v2), none, none, none, none, none], [vi v8], (Wd S L F9 G h)) _
  obtain ⟨g10, H⟩ := H
  obtain ⟨g11, H⟩ := H
  refine pt116 (s' := (38, [some (vr 0), some (vi a1), some (vi a2), some (vi (1 + (a1 % 6))), some (vi v2), none, none, none, none, none], [vi 114, vr 0], (Wd S L F9 G h))) (by decide) [0, 0, 0, 0] rfl ⟨trivial, ⟨⟨g10, (by decide : R32 2)⟩, g11⟩⟩ ?_
  refine wp.cl am_m116 rfl am_m85 7 [vr 0, vi 114] [] rfl (Nat.le_of_ble_eq_true rfl) ⟨(Nat.le_of_ble_eq_true rfl), (Nat.le_of_ble_eq_true rfl)⟩ rfl (Nat.le_of_ble_eq_true rfl) rfl (Nat.le_of_ble_eq_true rfl) (Nat.le_of_ble_eq_true rfl) ⟨_, _, rfl, Nat.le_of_ble_eq_true rfl, rfl⟩ ?_
  refine wp.mono H ?_
  rintro v w1 ⟨v12, F13, rfl, rfl, H⟩
  show wp 12 116 (41, [some (vr 0), some (vi a1), some (vi a2), some (vi (1 + (a1 % 6))), some (vi v2), none, none, none, none, none], [vi v12], (Wd S L F13 G h)) _
  obtain ⟨g14, H⟩ := H
  obtain ⟨g15, H⟩ := H
  refine pt116 (s' := (48, [some (vr 0), some (vi a1), some (vi a2), some (vi (1 + (a1 % 6))), some (vi v2), none, none, none, none, none], [vi 100, vr 0], (Wd S L F13 G h))) (by decide) [0, 0, 0, 0] rfl ⟨trivial, ⟨⟨g14, (by decide : R32 3)⟩, g15⟩⟩ ?_
  refine wp.cl am_m116 rfl am_m85 7 [vr 0, vi 100] [] rfl (Nat.le_of_ble_eq_true rfl) ⟨(Nat.le_of_ble_eq_true rfl), (Nat.le_of_ble_eq_true rfl)⟩ rfl (Nat.le_of_ble_eq_true rfl) rfl (Nat.le_of_ble_eq_true rfl) (Nat.le_of_ble_eq_true rfl) ⟨_, _, rfl, Nat.le_of_ble_eq_true rfl, rfl⟩ ?_
  refine wp.mono H ?_
  rintro v w1 ⟨v16, F17, rfl, rfl, H⟩
  show wp 12 116 (51, [some (vr 0), some (vi a1), some (vi a2), some (vi (1 + (a1 % 6))), some (vi v2), none, none, none, none, none], [vi v16], (Wd S L F17 G h)) _
  obtain ⟨g18, H⟩ := H
  obtain ⟨g19, H⟩ := H
  obtain ⟨g20, H⟩ := H
  refine pt116 (s' := (66, [some (vr 0), some (vi a1), some (vi a2), some (vi (1 + (a1 % 6))), some (vi v2), none, none, none, none, none], [vi (49 + ((a1 / 6) % 9)), vr 0], (Wd S L F17 G h))) (by decide) [0, 0, 0, 0, 0, 0, 0, 0, 0, 0] rfl ⟨⟨⟨trivial, ⟨⟨g18, (by decide : R32 4)⟩, g19⟩⟩, ⟨g1.1, g1.2, (by decide : (0 : Int) < 6), (by decide : (6 : Int) ≤ 2147483647)⟩⟩, ⟨g20.1, g20.2, (by decide : (0 : Int) < 9), (by decide : (9 : Int) ≤ 2147483647)⟩⟩ ?_
  refine wp.cl am_m116 rfl am_m85 7 [vr 0, vi (49 + ((a1 / 6) % 9))] [] rfl (Nat.le_of_ble_eq_true rfl) ⟨(Nat.le_of_ble_eq_true rfl), (Nat.le_of_ble_eq_true rfl)⟩ rfl (Nat.le_of_ble_eq_true rfl) rfl (Nat.le_of_ble_eq_true rfl) (Nat.le_of_ble_eq_true rfl) ⟨_, _, rfl, Nat.le_of_ble_eq_true rfl, rfl⟩ ?_
  refine wp.mono H ?_
  rintro v w1 ⟨v21, F22, rfl, rfl, H⟩
  show wp 12 116 (69, [some (vr 0), some (vi a1), some (vi a2), some (vi (1 + (a1 % 6))), some (vi v2), none, none, none, none, none], [vi v21], (Wd S L F22 G h)) _
  obtain ⟨g23, H⟩ := H
  obtain ⟨g24, H⟩ := H
  refine pt116 (s' := (76, [some (vr 0), some (vi a1), some (vi a2), some (vi (1 + (a1 % 6))), some (vi v2), none, none, none, none, none], [vi 58, vr 0], (Wd S L F22 G h))) (by decide) [0, 0, 0, 0] rfl ⟨trivial, ⟨⟨g23, (by decide : R32 5)⟩, g24⟩⟩ ?_
  refine wp.cl am_m116 rfl am_m85 7 [vr 0, vi 58] [] rfl (Nat.le_of_ble_eq_true rfl) ⟨(Nat.le_of_ble_eq_true rfl), (Nat.le_of_ble_eq_true rfl)⟩ rfl (Nat.le_of_ble_eq_true rfl) rfl (Nat.le_of_ble_eq_true rfl) (Nat.le_of_ble_eq_true rfl) ⟨_, _, rfl, Nat.le_of_ble_eq_true rfl, rfl⟩ ?_
  refine wp.mono H ?_
  rintro v w1 ⟨v25, F26, rfl, rfl, H⟩
  show wp 12 116 (79, [some (vr 0), some (vi a1), some (vi a2), some (vi (1 + (a1 % 6))), some (vi v2), none, none, none, none, none], [vi v25], (Wd S L F26 G h)) _
  obtain ⟨g27, H⟩ := H
  obtain ⟨g28, H⟩ := H
  refine pt116 (s' := (94, [some (vr 0), some (vi a1), some (vi a2), some (vi (1 + (a1 % 6))), some (vi v2), some (vi 1), some (vi 0), none, none, none], [], (Wd S L F26 G h))) (by decide) [0, 0, 0, 0, 0, 0, 0] rfl ⟨trivial, ⟨⟨g27, (by decide : R32 6)⟩, g28⟩⟩ ?_
  exact wp.weak (a := [some (vr 0), some (vi a1), some (vi a2), some (vi (1 + (a1 % 6))), some (vi v2), some (vi 1), some (vi 0), none, none, none]) ⟨rfl, rfl, rfl, rfl, rfl, rfl, rfl, trivial⟩ H
set_option maxRecDepth 100000 in
set_option maxHeartbeats 4000000 in
theorem T116_94 {S L : Nat} {F G : Nat → Nat → Int} {h : Nat → Nat → Option Nat} (hh : RfH h) {x1 : Int} {x2 : Int} {x3 : Int} {x4 : Int} {x6 : Int}  {Q : Option V2 → W2 → Prop}
    (H : (R32 x6 ∧
 R32 x3 ∧
 (if x3 ≤ x6 then
  C116_139 x1 x2 x3 x4 0 0 (Wd S L F G h) Q
 else
  (((0 : Int) ≤ x1 ∧ x1 ≤ 2147483647) ∧
  R32 (x1 % 3) ∧
  (if (x1 % 3) = 0 then
   (((0 : Int) ≤ ((Int32.ofInt x2 >>> (Int32.ofInt (3 * x6) &&& 31)).toInt) ∧ ((Int32.ofInt x2 >>> (Int32.ofInt (3 * x6) &&& 31)).toInt) ≤ 2147483647) ∧
   C85_0 (97 + (((Int32.ofInt x2 >>> (Int32.ofInt (3 * x6) &&& 31)).toInt) % 12)) (Wd S L F G h) (fun v w1 => ∃ (v8 : Int) (F9 : Nat → Nat → Int), v = some (vi v8) ∧ w1 = (Wd S L F9 G h) ∧
    C116_94 x1 x2 x3 x4 (x6 + 1) (Wd S L F9 G h) Q))
  else
   (((0 : Int) ≤ ((Int32.ofInt x2 >>> (Int32.ofInt (3 * x6) &&& 31)).toInt) ∧ ((Int32.ofInt x2 >>> (Int32.ofInt (3 * x6) &&& 31)).toInt) ≤ 2147483647) ∧
   C85_0 (97 + (((Int32.ofInt x2 >>> (Int32.ofInt (3 * x6) &&& 31)).toInt) % 3)) (Wd S L F G h) (fun v w1 => ∃ (v11 : Int) (F12 : Nat → Nat → Int), v = some (vi v11) ∧ w1 = (Wd S L F12 G h) ∧
    C116_94 x1 x2 x3 x4 (x6 + 1) (Wd S L F12 G h) Q))))))) : C116_94 x1 x2 x3 x4 x6 (Wd S L F G h) Q := by
  obtain ⟨g1, H⟩ := H
  obtain ⟨g2, H⟩ := H
  refine pt116 (s' := (97, [some (vr 0), some (vi x1), some (vi x2), some (vi x3), some (vi x4), some (vi 1), some (vi x6), none, none, none], [vi x3, vi x6], (Wd S L F G h))) (by decide) [0, 0] rfl trivial ?_
  by_cases c3 : x3 ≤ x6
  · rw [if_pos c3] at H
    refine pt116 (s' := (139, [some (vr 0), some (vi x1), some (vi x2), some (vi x3), some (vi x4), some (vi 1), some (vi 0), some (vi 0), none, none], [], (Wd S L F G h))) (by decide) [1, 0, 0, 0, 0] rfl ⟨trivial, ⟨⟨g1, g2⟩, c3⟩⟩ ?_
    exact wp.weak (a := [some (vr 0), some (vi x1), some (vi x2), some (vi x3), some (vi x4), some (vi 1), some (vi 0), some (vi 0), none, none]) ⟨rfl, rfl, rfl, rfl, rfl, rfl, rfl, rfl, trivial⟩ H
  · rw [if_neg c3] at H
    obtain ⟨g4, H⟩ := H
    obtain ⟨g5, H⟩ := H
    refine pt116 (s' := (112, [some (vr 0), some (vi x1), some (vi x2), some (vi x3), some (vi x4), some (vi 1), some (vi x6), none, none, none], [vi (x1 % 3), vi ((Int32.ofInt x2 >>> (Int32.ofInt (3 * x6) &&& 31)).toInt), vi 97, vr 0], (Wd S L F G h))) (by decide) [0, 0, 0, 0, 0, 0, 0, 0, 0, 0, 0] rfl ⟨⟨trivial, ⟨⟨g1, g2⟩, c3⟩⟩, ⟨g4.1, g4.2, (by decide : (0 : Int) < 3), (by decide : (3 : Int) ≤ 2147483647)⟩⟩ ?_
    by_cases c6 : (x1 % 3) = 0
    · rw [if_pos c6] at H
      obtain ⟨g7, H⟩ := H
      refine pt116 (s' := (123, [some (vr 0), some (vi x1), some (vi x2), some (vi x3), some (vi x4), some (vi 1), some (vi x6), none, none, none], [vi (97 + (((Int32.ofInt x2 >>> (Int32.ofInt (3 * x6) &&& 31)).toInt) % 12)), vr 0], (Wd S L F G h))) (by decide) [0, 0, 0, 0, 0] rfl ⟨⟨trivial, ⟨g5, c6⟩⟩, ⟨g7.1, g7.2, (by decide : (0 : Int) < 12), (by decide : (12 : Int) ≤ 2147483647)⟩⟩ ?_
      refine wp.cl am_m116 rfl am_m85 7 [vr 0, vi (97 + (((Int32.ofInt x2 >>> (Int32.ofInt (3 * x6) &&& 31)).toInt) % 12))] [] rfl (Nat.le_of_ble_eq_true rfl) ⟨(Nat.le_of_ble_eq_true rfl), (Nat.le_of_ble_eq_true rfl)⟩ rfl (Nat.le_of_ble_eq_true rfl) rfl (Nat.le_of_ble_eq_true rfl) (Nat.le_of_ble_eq_true rfl) ⟨_, _, rfl, Nat.le_of_ble_eq_true rfl, rfl⟩ ?_
      refine wp.mono H ?_
      rintro v w1 ⟨v8, F9, rfl, rfl, H⟩
      show wp 12 116 (126, [some (vr 0), some (vi x1), some (vi x2), some (vi x3), some (vi x4), some (vi 1), some (vi x6), none, none, none], [vi v8], (Wd S L F9 G h)) _
      refine pt116 (s' := (94, [some (vr 0), some (vi x1), some (vi x2), some (vi x3), some (vi x4), some (vi 1), some (vi (x6 + 1)), none, none, none], [], (Wd S L F9 G h))) (by decide) [0, 0, 0] rfl trivial ?_
      exact wp.weak (a := [some (vr 0), some (vi x1), some (vi x2), some (vi x3), some (vi x4), some (vi 1), some (vi (x6 + 1)), none, none, none]) ⟨rfl, rfl, rfl, rfl, rfl, rfl, rfl, trivial⟩ H
    · rw [if_neg c6] at H
      obtain ⟨g10, H⟩ := H
      refine pt116 (s' := (123, [some (vr 0), some (vi x1), some (vi x2), some (vi x3), some (vi x4), some (vi 1), some (vi x6), none, none, none], [vi (97 + (((Int32.ofInt x2 >>> (Int32.ofInt (3 * x6) &&& 31)).toInt) % 3)), vr 0], (Wd S L F G h))) (by decide) [1, 0, 0, 0] rfl ⟨⟨trivial, ⟨g5, c6⟩⟩, ⟨g10.1, g10.2, (by decide : (0 : Int) < 3), (by decide : (3 : Int) ≤ 2147483647)⟩⟩ ?_
      refine wp.cl am_m116 rfl am_m85 7 [vr 0, vi (97 + (((Int32.ofInt x2 >>> (Int32.ofInt (3 * x6) &&& 31)).toInt) % 3))] [] rfl (Nat.le_of_ble_eq_true rfl) ⟨(Nat.le_of_ble_eq_true rfl), (Nat.le_of_ble_eq_true rfl)⟩ rfl (Nat.le_of_ble_eq_true rfl) rfl (Nat.le_of_ble_eq_true rfl) (Nat.le_of_ble_eq_true rfl) ⟨_, _, rfl, Nat.le_of_ble_eq_true rfl, rfl⟩ ?_
      refine wp.mono H ?_
      rintro v w1 ⟨v11, F12, rfl, rfl, H⟩
      show wp 12 116 (126, [some (vr 0), some (vi x1), some (vi x2), some (vi x3), some (vi x4), some (vi 1), some (vi x6), none, none, none], [vi v11], (Wd S L F12 G h)) _
      refine pt116 (s' := (94, [some (vr 0), some (vi x1), some (vi x2), some (vi x3), some (vi x4), some (vi 1), some (vi (x6 + 1)), none, none, none], [], (Wd S L F12 G h))) (by decide) [0, 0, 0] rfl trivial ?_
      exact wp.weak (a := [some (vr 0), some (vi x1), some (vi x2), some (vi x3), some (vi x4), some (vi 1), some (vi (x6 + 1)), none, none, none]) ⟨rfl, rfl, rfl, rfl, rfl, rfl, rfl, trivial⟩ H
set_option maxRecDepth 100000 in
set_option maxHeartbeats 4000000 in
theorem T116_139 {S L : Nat} {F G : Nat → Nat → Int} {h : Nat → Nat → Option Nat} (hh : RfH h) {x1 : Int} {x2 : Int} {x3 : Int} {x4 : Int} {x6 : Int} {x7 : Int}  {Q : Option V2 → W2 → Prop}
    (H : (R32 x7 ∧
 R32 x4 ∧
 (if x4 ≤ x7 then
  C86_0  (Wd S L F G h) (fun v w1 => ∃ (v4 : Int) (F5 : Nat → Nat → Int) (h6 : Nat → Nat → Option Nat), v = some (vi v4) ∧ w1 = (Wd S L F5 G h6) ∧ RfH h6 ∧
   (R32 x6 ∧
   (if x6 = 0 then
    (R32 v4 ∧
    R32 (x4 + 1) ∧
    v4 = (x4 + 1) ∧
    C75_0 9 (Wd S L F5 G h6) (fun v w1 => ∃ (v13 : Int) (F14 : Nat → Nat → Int), v = some (vi v13) ∧ w1 = (Wd S L F14 G h6) ∧
     (R32 v13 ∧
     v13 = (x4 + 1) ∧
     C82_0 x4 0 (Wd S L F14 G h6) (fun v w1 => ∃ (v17 : Int), v = some (vi v17) ∧ w1 = (Wd S L F14 G h6) ∧
      (((0 : Int) ≤ x1 ∧ x1 ≤ 2147483647) ∧
      ((0 : Int) ≤ (x1 / 6) ∧ (x1 / 6) ≤ 2147483647) ∧
      R32 v17 ∧
      R32 (1 + ((x1 / 6) % 9)) ∧
      v17 = (1 + ((x1 / 6) % 9)) ∧
      C82_0 x4 1 (Wd S L F14 G h6) (fun v w1 => ∃ (v23 : Int), v = some (vi v23) ∧ w1 = (Wd S L F14 G h6) ∧
       (R32 v23 ∧
       R32 x3 ∧
       v23 = x3 ∧
       C83_0 x4 x3 (Wd S L F14 G h6) (fun v w1 => ∃ (v27 : Int), v = some (vi v27) ∧ w1 = (Wd S L F14 G h6) ∧
        (R32 v27 ∧
        v27 = (-4) ∧
        C83_0 x4 (-1) (Wd S L F14 G h6) (fun v w1 => ∃ (v30 : Int), v = some (vi v30) ∧ w1 = (Wd S L F14 G h6) ∧
         (R32 v30 ∧
         v30 = (-1) ∧
         Q (some (vi 1)) (Wd S L F14 G h6))))))))))))
   else
    (R32 v4 ∧
    v4 = (-2) ∧
    C75_0 9 (Wd S L F5 G h6) (fun v w1 => ∃ (v35 : Int) (F36 : Nat → Nat → Int), v = some (vi v35) ∧ w1 = (Wd S L F36 G h6) ∧
     (R32 v35 ∧
     v35 = x4 ∧
     Q (some (vi 1)) (Wd S L F36 G h6)))))))
 else
  C82_0 x7 1 (Wd S L F G h) (fun v w1 => ∃ (v39 : Int), v = some (vi v39) ∧ w1 = (Wd S L F G h) ∧
   (R32 v39 ∧
   R32 x3 ∧
   (if v39 = x3 then
    C116_167 x1 x2 x3 x4 x6 x7 1 0 (Wd S L F G h) Q
   else
    C116_167 x1 x2 x3 x4 x6 x7 0 0 (Wd S L F G h) Q)))))) : C116_139 x1 x2 x3 x4 x6 x7 (Wd S L F G h) Q := by
  obtain ⟨g1, H⟩ := H
  obtain ⟨g2, H⟩ := H
  refine pt116 (s' := (143, [some (vr 0), some (vi x1), some (vi x2), some (vi x3), some (vi x4), some (vi 1), some (vi x6), some (vi x7), none, none], [vi x4, vi x7], (Wd S L F G h))) (by decide) [0, 0] rfl trivial ?_
  by_cases c3 : x4 ≤ x7
  · rw [if_pos c3] at H
    refine pt116 (s' := (245, [some (vr 0), some (vi x1), some (vi x2), some (vi x3), some (vi x4), some (vi 1), some (vi x6), some (vi x7), none, none], [vr 0], (Wd S L F G h))) (by decide) [1, 0] rfl ⟨trivial, ⟨⟨g1, g2⟩, c3⟩⟩ ?_
    refine wp.cl am_m116 rfl am_m86 11 [vr 0] [] rfl (Nat.le_of_ble_eq_true rfl) ⟨(Nat.le_of_ble_eq_true rfl), (Nat.le_of_ble_eq_true rfl)⟩ rfl (Nat.le_of_ble_eq_true rfl) rfl (Nat.le_of_ble_eq_true rfl) (Nat.le_of_ble_eq_true rfl) ⟨_, _, rfl, Nat.le_of_ble_eq_true rfl, rfl⟩ ?_
    refine wp.mono H ?_
    rintro v w1 ⟨v4, F5, h6, rfl, rfl, r7, H⟩
    show wp 12 116 (248, [some (vr 0), some (vi x1), some (vi x2), some (vi x3), some (vi x4), some (vi 1), some (vi x6), some (vi x7), none, none], [vi v4], (Wd S L F5 G h6)) _
    obtain ⟨g8, H⟩ := H
    refine pt116 (s' := (257, [some (vr 0), some (vi x1), some (vi x2), some (vi x3), some (vi x4), some (vi 1), some (vi x6), some (vi v4), none, none], [vi x6], (Wd S L F5 G h6))) (by decide) [0, 0, 0, 0] rfl ⟨trivial, ⟨(by decide : R32 1), (by decide : ¬ (1 : Int) = (0 : Int))⟩⟩ ?_
    by_cases c9 : x6 = 0
    · rw [if_pos c9] at H
      obtain ⟨g10, H⟩ := H
      obtain ⟨g11, H⟩ := H
      obtain ⟨g12, H⟩ := H
      refine pt116 (s' := (293, [some (vr 0), some (vi x1), some (vi x2), some (vi x3), some (vi x4), some (vi 1), some (vi x6), some (vi v4), none, none], [vi 9, vr 0], (Wd S L F5 G h6))) (by decide) [1, 0, 0, 0, 0, 0, 0, 0] rfl ⟨⟨trivial, ⟨g8, c9⟩⟩, ⟨⟨g10, g11⟩, g12⟩⟩ ?_
      refine wp.cl am_m116 rfl am_m75 11 [vr 0, vi 9] [] rfl (Nat.le_of_ble_eq_true rfl) ⟨(Nat.le_of_ble_eq_true rfl), (Nat.le_of_ble_eq_true rfl)⟩ rfl (Nat.le_of_ble_eq_true rfl) rfl (Nat.le_of_ble_eq_true rfl) (Nat.le_of_ble_eq_true rfl) ⟨_, _, rfl, Nat.le_of_ble_eq_true rfl, rfl⟩ ?_
      refine wp.mono H ?_
      rintro v w1 ⟨v13, F14, rfl, rfl, H⟩
      show wp 12 116 (296, [some (vr 0), some (vi x1), some (vi x2), some (vi x3), some (vi x4), some (vi 1), some (vi x6), some (vi v4), none, none], [vi v13], (Wd S L F14 G h6)) _
      obtain ⟨g15, H⟩ := H
      obtain ⟨g16, H⟩ := H
      refine pt116 (s' := (307, [some (vr 0), some (vi x1), some (vi x2), some (vi x3), some (vi x4), some (vi 1), some (vi x6), some (vi v4), none, none], [vi 0, vi x4, vr 0], (Wd S L F14 G h6))) (by decide) [0, 0, 0, 0, 0, 0, 0] rfl ⟨trivial, ⟨⟨g15, g11⟩, g16⟩⟩ ?_
      refine wp.cl am_m116 rfl am_m82 9 [vr 0, vi x4, vi 0] [] rfl (Nat.le_of_ble_eq_true rfl) ⟨(Nat.le_of_ble_eq_true rfl), (Nat.le_of_ble_eq_true rfl)⟩ rfl (Nat.le_of_ble_eq_true rfl) rfl (Nat.le_of_ble_eq_true rfl) (Nat.le_of_ble_eq_true rfl) ⟨_, _, rfl, Nat.le_of_ble_eq_true rfl, rfl⟩ ?_
      refine wp.mono H ?_
      rintro v w1 ⟨v17, rfl, rfl, H⟩
      show wp 12 116 (310, [some (vr 0), some (vi x1), some (vi x2), some (vi x3), some (vi x4), some (vi 1), some (vi x6), some (vi v4), none, none], [vi v17], (Wd S L F14 G h6)) _
      obtain ⟨g18, H⟩ := H
      obtain ⟨g19, H⟩ := H
      obtain ⟨g20, H⟩ := H
      obtain ⟨g21, H⟩ := H
      obtain ⟨g22, H⟩ := H
      refine pt116 (s' := (326, [some (vr 0), some (vi x1), some (vi x2), some (vi x3), some (vi x4), some (vi 1), some (vi x6), some (vi v4), none, none], [vi 1, vi x4, vr 0], (Wd S L F14 G h6))) (by decide) [0, 0, 0, 0, 0, 0, 0, 0, 0, 0, 0] rfl ⟨⟨⟨trivial, ⟨g18.1, g18.2, (by decide : (0 : Int) < 6), (by decide : (6 : Int) ≤ 2147483647)⟩⟩, ⟨g19.1, g19.2, (by decide : (0 : Int) < 9), (by decide : (9 : Int) ≤ 2147483647)⟩⟩, ⟨⟨g20, g21⟩, g22⟩⟩ ?_
      refine wp.cl am_m116 rfl am_m82 9 [vr 0, vi x4, vi 1] [] rfl (Nat.le_of_ble_eq_true rfl) ⟨(Nat.le_of_ble_eq_true rfl), (Nat.le_of_ble_eq_true rfl)⟩ rfl (Nat.le_of_ble_eq_true rfl) rfl (Nat.le_of_ble_eq_true rfl) (Nat.le_of_ble_eq_true rfl) ⟨_, _, rfl, Nat.le_of_ble_eq_true rfl, rfl⟩ ?_
      refine wp.mono H ?_
      rintro v w1 ⟨v23, rfl, rfl, H⟩
      show wp 12 116 (329, [some (vr 0), some (vi x1), some (vi x2), some (vi x3), some (vi x4), some (vi 1), some (vi x6), some (vi v4), none, none], [vi v23], (Wd S L F14 G h6)) _
      obtain ⟨g24, H⟩ := H
      obtain ⟨g25, H⟩ := H
      obtain ⟨g26, H⟩ := H
      refine pt116 (s' := (337, [some (vr 0), some (vi x1), some (vi x2), some (vi x3), some (vi x4), some (vi 1), some (vi x6), some (vi v4), none, none], [vi x3, vi x4, vr 0], (Wd S L F14 G h6))) (by decide) [0, 0, 0, 0, 0] rfl ⟨trivial, ⟨⟨g24, g25⟩, g26⟩⟩ ?_
      refine wp.cl am_m116 rfl am_m83 7 [vr 0, vi x4, vi x3] [] rfl (Nat.le_of_ble_eq_true rfl) ⟨(Nat.le_of_ble_eq_true rfl), (Nat.le_of_ble_eq_true rfl)⟩ rfl (Nat.le_of_ble_eq_true rfl) rfl (Nat.le_of_ble_eq_true rfl) (Nat.le_of_ble_eq_true rfl) ⟨_, _, rfl, Nat.le_of_ble_eq_true rfl, rfl⟩ ?_
      refine wp.mono H ?_
      rintro v w1 ⟨v27, rfl, rfl, H⟩
      show wp 12 116 (340, [some (vr 0), some (vi x1), some (vi x2), some (vi x3), some (vi x4), some (vi 1), some (vi x6), some (vi v4), none, none], [vi v27], (Wd S L F14 G h6)) _
      obtain ⟨g28, H⟩ := H
      obtain ⟨g29, H⟩ := H
      refine pt116 (s' := (349, [some (vr 0), some (vi x1), some (vi x2), some (vi x3), some (vi x4), some (vi 1), some (vi x6), some (vi v4), none, none], [vi (-1), vi x4, vr 0], (Wd S L F14 G h6))) (by decide) [0, 0, 0, 0, 0] rfl ⟨trivial, ⟨⟨g28, (by decide : R32 (-4))⟩, g29⟩⟩ ?_
      refine wp.cl am_m116 rfl am_m83 7 [vr 0, vi x4, vi (-1)] [] rfl (Nat.le_of_ble_eq_true rfl) ⟨(Nat.le_of_ble_eq_true rfl), (Nat.le_of_ble_eq_true rfl)⟩ rfl (Nat.le_of_ble_eq_true rfl) rfl (Nat.le_of_ble_eq_true rfl) (Nat.le_of_ble_eq_true rfl) ⟨_, _, rfl, Nat.le_of_ble_eq_true rfl, rfl⟩ ?_
      refine wp.mono H ?_
      rintro v w1 ⟨v30, rfl, rfl, H⟩
      show wp 12 116 (352, [some (vr 0), some (vi x1), some (vi x2), some (vi x3), some (vi x4), some (vi 1), some (vi x6), some (vi v4), none, none], [vi v30], (Wd S L F14 G h6)) _
      obtain ⟨g31, H⟩ := H
      obtain ⟨g32, H⟩ := H
      refine pt116 (s' := (361, [some (vr 0), some (vi x1), some (vi x2), some (vi x3), some (vi x4), some (vi 1), some (vi x6), some (vi v4), none, none], [vi 1], (Wd S L F14 G h6))) (by decide) [0, 0, 0, 0] rfl ⟨trivial, ⟨⟨g31, (by decide : R32 (-1))⟩, g32⟩⟩ ?_
      exact wp.fin (v := some (vi 1)) (by decide) am_m116 rfl ⟨_, rfl, Or.inr ⟨rfl, Or.inr rfl⟩, rfl⟩ H
    · rw [if_neg c9] at H
      obtain ⟨g33, H⟩ := H
      obtain ⟨g34, H⟩ := H
      refine pt116 (s' := (270, [some (vr 0), some (vi x1), some (vi x2), some (vi x3), some (vi x4), some (vi 1), some (vi x6), some (vi v4), none, none], [vi 9, vr 0], (Wd S L F5 G h6))) (by decide) [0, 0, 0, 0, 0, 0] rfl ⟨⟨trivial, ⟨g8, c9⟩⟩, ⟨⟨g33, (by decide : R32 (-2))⟩, g34⟩⟩ ?_
      refine wp.cl am_m116 rfl am_m75 11 [vr 0, vi 9] [] rfl (Nat.le_of_ble_eq_true rfl) ⟨(Nat.le_of_ble_eq_true rfl), (Nat.le_of_ble_eq_true rfl)⟩ rfl (Nat.le_of_ble_eq_true rfl) rfl (Nat.le_of_ble_eq_true rfl) (Nat.le_of_ble_eq_true rfl) ⟨_, _, rfl, Nat.le_of_ble_eq_true rfl, rfl⟩ ?_
      refine wp.mono H ?_
      rintro v w1 ⟨v35, F36, rfl, rfl, H⟩
      show wp 12 116 (273, [some (vr 0), some (vi x1), some (vi x2), some (vi x3), some (vi x4), some (vi 1), some (vi x6), some (vi v4), none, none], [vi v35], (Wd S L F36 G h6)) _
      obtain ⟨g37, H⟩ := H
      obtain ⟨g38, H⟩ := H
      refine pt116 (s' := (361, [some (vr 0), some (vi x1), some (vi x2), some (vi x3), some (vi x4), some (vi 1), some (vi x6), some (vi v4), none, none], [vi 1], (Wd S L F36 G h6))) (by decide) [0, 0, 0, 0, 0] rfl ⟨trivial, ⟨⟨g37, g2⟩, g38⟩⟩ ?_
      exact wp.fin (v := some (vi 1)) (by decide) am_m116 rfl ⟨_, rfl, Or.inr ⟨rfl, Or.inr rfl⟩, rfl⟩ H
  · rw [if_neg c3] at H
    refine pt116 (s' := (150, [some (vr 0), some (vi x1), some (vi x2), some (vi x3), some (vi x4), some (vi 1), some (vi x6), some (vi x7), none, none], [vi 1, vi x7, vr 0], (Wd S L F G h))) (by decide) [0, 0, 0, 0] rfl ⟨trivial, ⟨⟨g1, g2⟩, c3⟩⟩ ?_
    refine wp.cl am_m116 rfl am_m82 9 [vr 0, vi x7, vi 1] [] rfl (Nat.le_of_ble_eq_true rfl) ⟨(Nat.le_of_ble_eq_true rfl), (Nat.le_of_ble_eq_true rfl)⟩ rfl (Nat.le_of_ble_eq_true rfl) rfl (Nat.le_of_ble_eq_true rfl) (Nat.le_of_ble_eq_true rfl) ⟨_, _, rfl, Nat.le_of_ble_eq_true rfl, rfl⟩ ?_
    refine wp.mono H ?_
    rintro v w1 ⟨v39, rfl, rfl, H⟩
    show wp 12 116 (153, [some (vr 0), some (vi x1), some (vi x2), some (vi x3), some (vi x4), some (vi 1), some (vi x6), some (vi x7), none, none], [vi v39], (Wd S L F G h)) _
    obtain ⟨g40, H⟩ := H
    obtain ⟨g41, H⟩ := H
    refine pt116 (s' := (154, [some (vr 0), some (vi x1), some (vi x2), some (vi x3), some (vi x4), some (vi 1), some (vi x6), some (vi x7), none, none], [vi x3, vi v39], (Wd S L F G h))) (by decide) [0] rfl trivial ?_
    by_cases c42 : v39 = x3
    · rw [if_pos c42] at H
      refine pt116 (s' := (167, [some (vr 0), some (vi x1), some (vi x2), some (vi x3), some (vi x4), some (vi 1), some (vi x6), some (vi x7), some (vi 1), some (vi 0)], [], (Wd S L F G h))) (by decide) [0, 0, 0, 0, 0, 0] rfl ⟨trivial, ⟨⟨g40, g41⟩, c42⟩⟩ ?_
      exact wp.weak (a := [some (vr 0), some (vi x1), some (vi x2), some (vi x3), some (vi x4), some (vi 1), some (vi x6), some (vi x7), some (vi 1), some (vi 0)]) ⟨rfl, rfl, rfl, rfl, rfl, rfl, rfl, rfl, rfl, rfl, trivial⟩ H
    · rw [if_neg c42] at H
      refine pt116 (s' := (167, [some (vr 0), some (vi x1), some (vi x2), some (vi x3), some (vi x4), some (vi 1), some (vi x6), some (vi x7), some (vi 0), some (vi 0)], [], (Wd S L F G h))) (by decide) [1, 0, 0, 0, 0] rfl ⟨trivial, ⟨⟨g40, g41⟩, c42⟩⟩ ?_
      exact wp.weak (a := [some (vr 0), some (vi x1), some (vi x2), some (vi x3), some (vi x4), some (vi 1), some (vi x6), some (vi x7), some (vi 0), some (vi 0)]) ⟨rfl, rfl, rfl, rfl, rfl, rfl, rfl, rfl, rfl, rfl, trivial⟩ H
set_option maxRecDepth 100000 in
set_option maxHeartbeats 4000000 in
theorem T116_167 {S L : Nat} {F G : Nat → Nat → Int} {h : Nat → Nat → Option Nat} (hh : RfH h) {x1 : Int} {x2 : Int} {x3 : Int} {x4 : Int} {x6 : Int} {x7 : Int} {x8 : Int} {x9 : Int}  {Q : Option V2 → W2 → Prop}
    (H : (R32 x9 ∧
 R32 x3 ∧
 (if x3 ≤ x9 then
  (R32 x6 ∧
  (if x6 = 0 then
   (R32 x8 ∧
   (if x8 = 0 then
    C116_139 x1 x2 x3 x4 0 (x7 + 1) (Wd S L F G h) Q
   else
    C116_139 x1 x2 x3 x4 1 (x7 + 1) (Wd S L F G h) Q))
  else
   C116_139 x1 x2 x3 x4 1 (x7 + 1) (Wd S L F G h) Q))
 else
  (R32 x8 ∧
  (if x8 = 0 then
   (R32 x6 ∧
   (if x6 = 0 then
    C116_139 x1 x2 x3 x4 0 (x7 + 1) (Wd S L F G h) Q
   else
    C116_139 x1 x2 x3 x4 1 (x7 + 1) (Wd S L F G h) Q))
  else
   C83_0 x7 x9 (Wd S L F G h) (fun v w1 => ∃ (v12 : Int), v = some (vi v12) ∧ w1 = (Wd S L F G h) ∧
    (((0 : Int) ≤ x1 ∧ x1 ≤ 2147483647) ∧
    R32 (x1 % 3) ∧
    (if (x1 % 3) = 0 then
     (((0 : Int) ≤ ((Int32.ofInt x2 >>> (Int32.ofInt (3 * x9) &&& 31)).toInt) ∧ ((Int32.ofInt x2 >>> (Int32.ofInt (3 * x9) &&& 31)).toInt) ≤ 2147483647) ∧
     R32 v12 ∧
     R32 (((Int32.ofInt x2 >>> (Int32.ofInt (3 * x9) &&& 31)).toInt) % 12) ∧
     (if v12 = (((Int32.ofInt x2 >>> (Int32.ofInt (3 * x9) &&& 31)).toInt) % 12) then
      C116_167 x1 x2 x3 x4 x6 x7 1 (x9 + 1) (Wd S L F G h) Q
     else
      C116_167 x1 x2 x3 x4 x6 x7 0 (x9 + 1) (Wd S L F G h) Q))
    else
     (((0 : Int) ≤ ((Int32.ofInt x2 >>> (Int32.ofInt (3 * x9) &&& 31)).toInt) ∧ ((Int32.ofInt x2 >>> (Int32.ofInt (3 * x9) &&& 31)).toInt) ≤ 2147483647) ∧
     R32 v12 ∧
     R32 (((Int32.ofInt x2 >>> (Int32.ofInt (3 * x9) &&& 31)).toInt) % 3) ∧
     (if v12 = (((Int32.ofInt x2 >>> (Int32.ofInt (3 * x9) &&& 31)).toInt) % 3) then
      C116_167 x1 x2 x3 x4 x6 x7 1 (x9 + 1) (Wd S L F G h) Q
     else
      C116_167 x1 x2 x3 x4 x6 x7 0 (x9 + 1) (Wd S L F G h) Q)))))))))) : C116_167 x1 x2 x3 x4 x6 x7 x8 x9 (Wd S L F G h) Q := by
  obtain ⟨g1, H⟩ := H
  obtain ⟨g2, H⟩ := H
  refine pt116 (s' := (170, [some (vr 0), some (vi x1), some (vi x2), some (vi x3), some (vi x4), some (vi 1), some (vi x6), some (vi x7), some (vi x8), some (vi x9)], [vi x3, vi x9], (Wd S L F G h))) (by decide) [0, 0] rfl trivial ?_
  by_cases c3 : x3 ≤ x9
  · rw [if_pos c3] at H
    obtain ⟨g4, H⟩ := H
    refine pt116 (s' := (223, [some (vr 0), some (vi x1), some (vi x2), some (vi x3), some (vi x4), some (vi 1), some (vi x6), some (vi x7), some (vi x8), some (vi x9)], [vi x6], (Wd S L F G h))) (by decide) [1, 0] rfl ⟨trivial, ⟨⟨g1, g2⟩, c3⟩⟩ ?_
    by_cases c5 : x6 = 0
    · rw [if_pos c5] at H
      obtain ⟨g6, H⟩ := H
      refine pt116 (s' := (228, [some (vr 0), some (vi x1), some (vi x2), some (vi x3), some (vi x4), some (vi 1), some (vi x6), some (vi x7), some (vi x8), some (vi x9)], [vi x8], (Wd S L F G h))) (by decide) [0, 0] rfl ⟨trivial, ⟨g4, c5⟩⟩ ?_
      by_cases c7 : x8 = 0
      · rw [if_pos c7] at H
        refine pt116 (s' := (139, [some (vr 0), some (vi x1), some (vi x2), some (vi x3), some (vi x4), some (vi 1), some (vi 0), some (vi (x7 + 1)), some (vi x8), some (vi x9)], [], (Wd S L F G h))) (by decide) [1, 0, 0, 0, 0] rfl ⟨trivial, ⟨g6, c7⟩⟩ ?_
        exact wp.weak (a := [some (vr 0), some (vi x1), some (vi x2), some (vi x3), some (vi x4), some (vi 1), some (vi 0), some (vi (x7 + 1)), none, none]) ⟨rfl, rfl, rfl, rfl, rfl, rfl, rfl, rfl, trivial⟩ H
      · rw [if_neg c7] at H
        refine pt116 (s' := (139, [some (vr 0), some (vi x1), some (vi x2), some (vi x3), some (vi x4), some (vi 1), some (vi 1), some (vi (x7 + 1)), some (vi x8), some (vi x9)], [], (Wd S L F G h))) (by decide) [0, 0, 0, 0, 0, 0] rfl ⟨trivial, ⟨g6, c7⟩⟩ ?_
        exact wp.weak (a := [some (vr 0), some (vi x1), some (vi x2), some (vi x3), some (vi x4), some (vi 1), some (vi 1), some (vi (x7 + 1)), none, none]) ⟨rfl, rfl, rfl, rfl, rfl, rfl, rfl, rfl, trivial⟩ H
    · rw [if_neg c5] at H
      refine pt116 (s' := (139, [some (vr 0), some (vi x1), some (vi x2), some (vi x3), some (vi x4), some (vi 1), some (vi 1), some (vi (x7 + 1)), some (vi x8), some (vi x9)], [], (Wd S L F G h))) (by decide) [1, 0, 0, 0, 0, 0] rfl ⟨trivial, ⟨g4, c5⟩⟩ ?_
      exact wp.weak (a := [some (vr 0), some (vi x1), some (vi x2), some (vi x3), some (vi x4), some (vi 1), some (vi 1), some (vi (x7 + 1)), none, none]) ⟨rfl, rfl, rfl, rfl, rfl, rfl, rfl, rfl, trivial⟩ H
  · rw [if_neg c3] at H
    obtain ⟨g8, H⟩ := H
    refine pt116 (s' := (175, [some (vr 0), some (vi x1), some (vi x2), some (vi x3), some (vi x4), some (vi 1), some (vi x6), some (vi x7), some (vi x8), some (vi x9)], [vi x8], (Wd S L F G h))) (by decide) [0, 0] rfl ⟨trivial, ⟨⟨g1, g2⟩, c3⟩⟩ ?_
    by_cases c9 : x8 = 0
    · rw [if_pos c9] at H
      obtain ⟨g10, H⟩ := H
      refine pt116 (s' := (223, [some (vr 0), some (vi x1), some (vi x2), some (vi x3), some (vi x4), some (vi 1), some (vi x6), some (vi x7), some (vi x8), some (vi x9)], [vi x6], (Wd S L F G h))) (by decide) [1, 0] rfl ⟨trivial, ⟨g8, c9⟩⟩ ?_
      by_cases c11 : x6 = 0
      · rw [if_pos c11] at H
        refine pt116 (s' := (139, [some (vr 0), some (vi x1), some (vi x2), some (vi x3), some (vi x4), some (vi 1), some (vi 0), some (vi (x7 + 1)), some (vi x8), some (vi x9)], [], (Wd S L F G h))) (by decide) [0, 0, 1, 0, 0, 0, 0] rfl ⟨⟨trivial, ⟨g10, c11⟩⟩, ⟨g8, c9⟩⟩ ?_
        exact wp.weak (a := [some (vr 0), some (vi x1), some (vi x2), some (vi x3), some (vi x4), some (vi 1), some (vi 0), some (vi (x7 + 1)), none, none]) ⟨rfl, rfl, rfl, rfl, rfl, rfl, rfl, rfl, trivial⟩ H
      · rw [if_neg c11] at H
        refine pt116 (s' := (139, [some (vr 0), some (vi x1), some (vi x2), some (vi x3), some (vi x4), some (vi 1), some (vi 1), some (vi (x7 + 1)), some (vi x8), some (vi x9)], [], (Wd S L F G h))) (by decide) [1, 0, 0, 0, 0, 0] rfl ⟨trivial, ⟨g10, c11⟩⟩ ?_
        exact wp.weak (a := [some (vr 0), some (vi x1), some (vi x2), some (vi x3), some (vi x4), some (vi 1), some (vi 1), some (vi (x7 + 1)), none, none]) ⟨rfl, rfl, rfl, rfl, rfl, rfl, rfl, rfl, trivial⟩ H
    · rw [if_neg c9] at H
      refine pt116 (s' := (183, [some (vr 0), some (vi x1), some (vi x2), some (vi x3), some (vi x4), some (vi 1), some (vi x6), some (vi x7), some (vi x8), some (vi x9)], [vi x9, vi x7, vr 0], (Wd S L F G h))) (by decide) [0, 0, 0, 0] rfl ⟨trivial, ⟨g8, c9⟩⟩ ?_
      refine wp.cl am_m116 rfl am_m83 7 [vr 0, vi x7, vi x9] [] rfl (Nat.le_of_ble_eq_true rfl) ⟨(Nat.le_of_ble_eq_true rfl), (Nat.le_of_ble_eq_true rfl)⟩ rfl (Nat.le_of_ble_eq_true rfl) rfl (Nat.le_of_ble_eq_true rfl) (Nat.le_of_ble_eq_true rfl) ⟨_, _, rfl, Nat.le_of_ble_eq_true rfl, rfl⟩ ?_
      refine wp.mono H ?_
      rintro v w1 ⟨v12, rfl, rfl, H⟩
      show wp 12 116 (186, [some (vr 0), some (vi x1), some (vi x2), some (vi x3), some (vi x4), some (vi 1), some (vi x6), some (vi x7), some (vi x8), some (vi x9)], [vi v12], (Wd S L F G h)) _
      obtain ⟨g13, H⟩ := H
      obtain ⟨g14, H⟩ := H
      refine pt116 (s' := (195, [some (vr 0), some (vi x1), some (vi x2), some (vi x3), some (vi x4), some (vi 1), some (vi x6), some (vi x7), some (vi x8), some (vi x9)], [vi (x1 % 3), vi ((Int32.ofInt x2 >>> (Int32.ofInt (3 * x9) &&& 31)).toInt), vi v12], (Wd S L F G h))) (by decide) [0, 0, 0, 0, 0, 0, 0, 0] rfl ⟨trivial, ⟨g13.1, g13.2, (by decide : (0 : Int) < 3), (by decide : (3 : Int) ≤ 2147483647)⟩⟩ ?_
      by_cases c15 : (x1 % 3) = 0
      · rw [if_pos c15] at H
        obtain ⟨g16, H⟩ := H
        obtain ⟨g17, H⟩ := H
        obtain ⟨g18, H⟩ := H
        refine pt116 (s' := (205, [some (vr 0), some (vi x1), some (vi x2), some (vi x3), some (vi x4), some (vi 1), some (vi x6), some (vi x7), some (vi x8), some (vi x9)], [vi (((Int32.ofInt x2 >>> (Int32.ofInt (3 * x9) &&& 31)).toInt) % 12), vi v12], (Wd S L F G h))) (by decide) [0, 0, 0, 0] rfl ⟨⟨trivial, ⟨g14, c15⟩⟩, ⟨g16.1, g16.2, (by decide : (0 : Int) < 12), (by decide : (12 : Int) ≤ 2147483647)⟩⟩ ?_
        by_cases c19 : v12 = (((Int32.ofInt x2 >>> (Int32.ofInt (3 * x9) &&& 31)).toInt) % 12)
        · rw [if_pos c19] at H
          refine pt116 (s' := (167, [some (vr 0), some (vi x1), some (vi x2), some (vi x3), some (vi x4), some (vi 1), some (vi x6), some (vi x7), some (vi 1), some (vi (x9 + 1))], [], (Wd S L F G h))) (by decide) [0, 0, 0, 0, 0, 0] rfl ⟨trivial, ⟨⟨g17, g18⟩, c19⟩⟩ ?_
          exact wp.weak (a := [some (vr 0), some (vi x1), some (vi x2), some (vi x3), some (vi x4), some (vi 1), some (vi x6), some (vi x7), some (vi 1), some (vi (x9 + 1))]) ⟨rfl, rfl, rfl, rfl, rfl, rfl, rfl, rfl, rfl, rfl, trivial⟩ H
        · rw [if_neg c19] at H
          refine pt116 (s' := (167, [some (vr 0), some (vi x1), some (vi x2), some (vi x3), some (vi x4), some (vi 1), some (vi x6), some (vi x7), some (vi 0), some (vi (x9 + 1))], [], (Wd S L F G h))) (by decide) [1, 0, 0, 0, 0] rfl ⟨trivial, ⟨⟨g17, g18⟩, c19⟩⟩ ?_
          exact wp.weak (a := [some (vr 0), some (vi x1), some (vi x2), some (vi x3), some (vi x4), some (vi 1), some (vi x6), some (vi x7), some (vi 0), some (vi (x9 + 1))]) ⟨rfl, rfl, rfl, rfl, rfl, rfl, rfl, rfl, rfl, rfl, trivial⟩ H
      · rw [if_neg c15] at H
        obtain ⟨g20, H⟩ := H
        obtain ⟨g21, H⟩ := H
        obtain ⟨g22, H⟩ := H
        refine pt116 (s' := (205, [some (vr 0), some (vi x1), some (vi x2), some (vi x3), some (vi x4), some (vi 1), some (vi x6), some (vi x7), some (vi x8), some (vi x9)], [vi (((Int32.ofInt x2 >>> (Int32.ofInt (3 * x9) &&& 31)).toInt) % 3), vi v12], (Wd S L F G h))) (by decide) [1, 0, 0] rfl ⟨⟨trivial, ⟨g14, c15⟩⟩, ⟨g20.1, g20.2, (by decide : (0 : Int) < 3), (by decide : (3 : Int) ≤ 2147483647)⟩⟩ ?_
        by_cases c23 : v12 = (((Int32.ofInt x2 >>> (Int32.ofInt (3 * x9) &&& 31)).toInt) % 3)
        · rw [if_pos c23] at H
          refine pt116 (s' := (167, [some (vr 0), some (vi x1), some (vi x2), some (vi x3), some (vi x4), some (vi 1), some (vi x6), some (vi x7), some (vi 1), some (vi (x9 + 1))], [], (Wd S L F G h))) (by decide) [0, 0, 0, 0, 0, 0] rfl ⟨trivial, ⟨⟨g21, g22⟩, c23⟩⟩ ?_
          exact wp.weak (a := [some (vr 0), some (vi x1), some (vi x2), some (vi x3), some (vi x4), some (vi 1), some (vi x6), some (vi x7), some (vi 1), some (vi (x9 + 1))]) ⟨rfl, rfl, rfl, rfl, rfl, rfl, rfl, rfl, rfl, rfl, trivial⟩ H
        · rw [if_neg c23] at H
          refine pt116 (s' := (167, [some (vr 0), some (vi x1), some (vi x2), some (vi x3), some (vi x4), some (vi 1), some (vi x6), some (vi x7), some (vi 0), some (vi (x9 + 1))], [], (Wd S L F G h))) (by decide) [1, 0, 0, 0, 0] rfl ⟨trivial, ⟨⟨g21, g22⟩, c23⟩⟩ ?_
          exact wp.weak (a := [some (vr 0), some (vi x1), some (vi x2), some (vi x3), some (vi x4), some (vi 1), some (vi x6), some (vi x7), some (vi 0), some (vi (x9 + 1))]) ⟨rfl, rfl, rfl, rfl, rfl, rfl, rfl, rfl, rfl, rfl, trivial⟩ H
set_option maxRecDepth 100000 in
set_option maxHeartbeats 4000000 in
theorem T117_0 {S L : Nat} {F G : Nat → Nat → Int} {h : Nat → Nat → Option Nat} (hh : RfH h)   {Q : Option V2 → W2 → Prop}
    (H : C75_0 0 (Wd S L F G h) (fun v w1 => ∃ (v1 : Int) (F2 : Nat → Nat → Int), v = some (vi v1) ∧ w1 = (Wd S L F2 G h) ∧
  C75_0 1 (Wd S L F2 G h) (fun v w1 => ∃ (v3 : Int) (F4 : Nat → Nat → Int), v = some (vi v3) ∧ w1 = (Wd S L F4 G h) ∧
   (R32 v3 ∧
   ¬ (v3 < 0) ∧
   C75_0 1 (Wd S L F4 G h) (fun v w1 => ∃ (v7 : Int) (F8 : Nat → Nat → Int), v = some (vi v7) ∧ w1 = (Wd S L F8 G h) ∧
    (R32 v7 ∧
    ¬ (100 < v7) ∧
    C117_44 v1 0 0 0 0 0 (Wd S L F8 G h) Q)))))) : C117_0  (Wd S L F G h) Q := by
  refine pt117 (s' := (2, [some (vr 0), none, none, none, none, none, none, none, none, none, none, none, none], [vi 0, vr 0], (Wd S L F G h))) (by decide) [0, 0] rfl trivial ?_
  refine wp.cl am_m117 rfl am_m75 11 [vr 0, vi 0] [] rfl (Nat.le_of_ble_eq_true rfl) ⟨(Nat.le_of_ble_eq_true rfl), (Nat.le_of_ble_eq_true rfl)⟩ rfl (Nat.le_of_ble_eq_true rfl) rfl (Nat.le_of_ble_eq_true rfl) (Nat.le_of_ble_eq_true rfl) ⟨_, _, rfl, Nat.le_of_ble_eq_true rfl, rfl⟩ ?_
  refine wp.mono H ?_
  rintro v w1 ⟨v1, F2, rfl, rfl, H⟩
  show wp 12 117 (5, [some (vr 0), none, none, none, none, none, none, none, none, none, none, none, none], [vi v1], (Wd S L F2 G h)) _
  refine pt117 (s' := (18, [some (vr 0), some (vi v1), some (vi 0), some (vi 0), some (vi 0), some (vi 0), none, none, none, none, none, none, none], [vi 1, vr 0], (Wd S L F2 G h))) (by decide) [0, 0, 0, 0, 0, 0, 0, 0, 0, 0, 0] rfl trivial ?_
  refine wp.cl am_m117 rfl am_m75 11 [vr 0, vi 1] [] rfl (Nat.le_of_ble_eq_true rfl) ⟨(Nat.le_of_ble_eq_true rfl), (Nat.le_of_ble_eq_true rfl)⟩ rfl (Nat.le_of_ble_eq_true rfl) rfl (Nat.le_of_ble_eq_true rfl) (Nat.le_of_ble_eq_true rfl) ⟨_, _, rfl, Nat.le_of_ble_eq_true rfl, rfl⟩ ?_
  refine wp.mono H ?_
  rintro v w1 ⟨v3, F4, rfl, rfl, H⟩
  show wp 12 117 (21, [some (vr 0), some (vi v1), some (vi 0), some (vi 0), some (vi 0), some (vi 0), none, none, none, none, none, none, none], [vi v3], (Wd S L F4 G h)) _
  obtain ⟨g5, H⟩ := H
  obtain ⟨g6, H⟩ := H
  refine pt117 (s' := (26, [some (vr 0), some (vi v1), some (vi 0), some (vi 0), some (vi 0), some (vi 0), none, none, none, none, none, none, none], [vi 1, vr 0], (Wd S L F4 G h))) (by decide) [0, 0, 0] rfl ⟨trivial, ⟨g5, g6⟩⟩ ?_
  refine wp.cl am_m117 rfl am_m75 11 [vr 0, vi 1] [] rfl (Nat.le_of_ble_eq_true rfl) ⟨(Nat.le_of_ble_eq_true rfl), (Nat.le_of_ble_eq_true rfl)⟩ rfl (Nat.le_of_ble_eq_true rfl) rfl (Nat.le_of_ble_eq_true rfl) (Nat.le_of_ble_eq_true rfl) ⟨_, _, rfl, Nat.le_of_ble_eq_true rfl, rfl⟩ ?_
  refine wp.mono H ?_
  rintro v w1 ⟨v7, F8, rfl, rfl, H⟩
  show wp 12 117 (29, [some (vr 0), some (vi v1), some (vi 0), some (vi 0), some (vi 0), some (vi 0), none, none, none, none, none, none, none], [vi v7], (Wd S L F8 G h)) _
  obtain ⟨g9, H⟩ := H
  obtain ⟨g10, H⟩ := H
  refine pt117 (s' := (44, [some (vr 0), some (vi v1), some (vi 0), some (vi 0), some (vi 0), some (vi 0), some (vi 1), some (vi 0), none, none, none, none, none], [], (Wd S L F8 G h))) (by decide) [0, 0, 0, 0, 0, 0, 0] rfl ⟨trivial, ⟨⟨g9, (by decide : R32 100)⟩, g10⟩⟩ ?_
  exact wp.weak (a := [some (vr 0), some (vi v1), some (vi 0), some (vi 0), some (vi 0), some (vi 0), some (vi 1), some (vi 0), none, none, none, none, none]) ⟨rfl, rfl, rfl, rfl, rfl, rfl, rfl, rfl, trivial⟩ H
set_option maxRecDepth 100000 in
set_option maxHeartbeats 4000000 in
theorem T117_44 {S L : Nat} {F G : Nat → Nat → Int} {h : Nat → Nat → Option Nat} (hh : RfH h) {x1 : Int} {x2 : Int} {x3 : Int} {x4 : Int} {x5 : Int} {x7 : Int}  {Q : Option V2 → W2 → Prop}
    (H : (R32 x7 ∧
 R32 x1 ∧
 (if x1 ≤ x7 then
  C117_361 x1 x2 x3 x4 x5 0 0 0 (-4) 0 (Wd S L F G h) Q
 else
  C73_0 x7 4 (Wd S L F G h) (fun v w1 => ∃ (v4 : Int) (F5 : Nat → Nat → Int), v = some (vi v4) ∧ w1 = (Wd S L F5 G h) ∧
   C73_0 x7 5 (Wd S L F5 G h) (fun v w1 => ∃ (v6 : Int) (F7 : Nat → Nat → Int), v = some (vi v6) ∧ w1 = (Wd S L F7 G h) ∧
    C73_0 x7 0 (Wd S L F7 G h) (fun v w1 => ∃ (v8 : Int) (F9 : Nat → Nat → Int), v = some (vi v8) ∧ w1 = (Wd S L F9 G h) ∧
     C72_0 v8 4 (Wd S L F9 G h) (fun v w1 => ∃ (v10 : Int), v = some (vi v10) ∧ w1 = (Wd S L F9 G h) ∧
      (R32 v10 ∧
      (if v10 = 1 then
       C117_96 x1 x2 x3 x4 x5 x7 v4 v6 1 (Wd S L F9 G h) Q
      else
       C117_96 x1 x2 x3 x4 x5 x7 v4 v6 0 (Wd S L F9 G h) Q))))))))) : C117_44 x1 x2 x3 x4 x5 x7 (Wd S L F G h) Q := by
  obtain ⟨g1, H⟩ := H
  obtain ⟨g2, H⟩ := H
  refine pt117 (s' := (47, [some (vr 0), some (vi x1), some (vi x2), some (vi x3), some (vi x4), some (vi x5), some (vi 1), some (vi x7), none, none, none, none, none], [vi x1, vi x7], (Wd S L F G h))) (by decide) [0, 0] rfl trivial ?_
  by_cases c3 : x1 ≤ x7
  · rw [if_pos c3] at H
    refine pt117 (s' := (361, [some (vr 0), some (vi x1), some (vi x2), some (vi x3), some (vi x4), some (vi x5), some (vi 1), some (vi 0), some (vi 0), some (vi 0), some (vi (-4)), some (vi 0), none], [], (Wd S L F G h))) (by decide) [1, 0, 0, 0, 0, 0, 0, 0, 0, 0, 0] rfl ⟨trivial, ⟨⟨g1, g2⟩, c3⟩⟩ ?_
    exact wp.weak (a := [some (vr 0), some (vi x1), some (vi x2), some (vi x3), some (vi x4), some (vi x5), some (vi 1), some (vi 0), some (vi 0), some (vi 0), some (vi (-4)), some (vi 0), none]) ⟨rfl, rfl, rfl, rfl, rfl, rfl, rfl, rfl, rfl, rfl, rfl, rfl, trivial⟩ H
  · rw [if_neg c3] at H
    refine pt117 (s' := (59, [some (vr 0), some (vi x1), some (vi x2), some (vi x3), some (vi x4), some (vi x5), some (vi 1), some (vi x7), none, none, none, none, none], [vi 4, vi x7, vr 0], (Wd S L F G h))) (by decide) [0, 0, 0, 0, 0, 0] rfl ⟨⟨trivial, ⟨⟨g1, g2⟩, c3⟩⟩, ⟨(by decide : R32 1), (by decide : ¬ (1 : Int) = (0 : Int))⟩⟩ ?_
    refine wp.cl am_m117 rfl am_m73 11 [vr 0, vi x7, vi 4] [] rfl (Nat.le_of_ble_eq_true rfl) ⟨(Nat.le_of_ble_eq_true rfl), (Nat.le_of_ble_eq_true rfl)⟩ rfl (Nat.le_of_ble_eq_true rfl) rfl (Nat.le_of_ble_eq_true rfl) (Nat.le_of_ble_eq_true rfl) ⟨_, _, rfl, Nat.le_of_ble_eq_true rfl, rfl⟩ ?_
    refine wp.mono H ?_
    rintro v w1 ⟨v4, F5, rfl, rfl, H⟩
    show wp 12 117 (62, [some (vr 0), some (vi x1), some (vi x2), some (vi x3), some (vi x4), some (vi x5), some (vi 1), some (vi x7), none, none, none, none, none], [vi v4], (Wd S L F5 G h)) _
    refine pt117 (s' := (68, [some (vr 0), some (vi x1), some (vi x2), some (vi x3), some (vi x4), some (vi x5), some (vi 1), some (vi x7), some (vi v4), none, none, none, none], [vi 5, vi x7, vr 0], (Wd S L F5 G h))) (by decide) [0, 0, 0, 0] rfl trivial ?_
    refine wp.cl am_m117 rfl am_m73 11 [vr 0, vi x7, vi 5] [] rfl (Nat.le_of_ble_eq_true rfl) ⟨(Nat.le_of_ble_eq_true rfl), (Nat.le_of_ble_eq_true rfl)⟩ rfl (Nat.le_of_ble_eq_true rfl) rfl (Nat.le_of_ble_eq_true rfl) (Nat.le_of_ble_eq_true rfl) ⟨_, _, rfl, Nat.le_of_ble_eq_true rfl, rfl⟩ ?_
    refine wp.mono H ?_
    rintro v w1 ⟨v6, F7, rfl, rfl, H⟩
    show wp 12 117 (71, [some (vr 0), some (vi x1), some (vi x2), some (vi x3), some (vi x4), some (vi x5), some (vi 1), some (vi x7), some (vi v4), none, none, none, none], [vi v6], (Wd S L F7 G h)) _
    refine pt117 (s' := (78, [some (vr 0), some (vi x1), some (vi x2), some (vi x3), some (vi x4), some (vi x5), some (vi 1), some (vi x7), some (vi v4), some (vi v6), none, none, none], [vi 0, vi x7, vr 0, vr 0], (Wd S L F7 G h))) (by decide) [0, 0, 0, 0, 0] rfl trivial ?_
    refine wp.cl am_m117 rfl am_m73 11 [vr 0, vi x7, vi 0] [vr 0] rfl (Nat.le_of_ble_eq_true rfl) ⟨(Nat.le_of_ble_eq_true rfl), (Nat.le_of_ble_eq_true rfl)⟩ rfl (Nat.le_of_ble_eq_true rfl) rfl (Nat.le_of_ble_eq_true rfl) (Nat.le_of_ble_eq_true rfl) ⟨_, _, rfl, Nat.le_of_ble_eq_true rfl, rfl⟩ ?_
    refine wp.mono H ?_
    rintro v w1 ⟨v8, F9, rfl, rfl, H⟩
    show wp 12 117 (81, [some (vr 0), some (vi x1), some (vi x2), some (vi x3), some (vi x4), some (vi x5), some (vi 1), some (vi x7), some (vi v4), some (vi v6), none, none, none], [vi v8, vr 0], (Wd S L F9 G h)) _
    refine pt117 (s' := (82, [some (vr 0), some (vi x1), some (vi x2), some (vi x3), some (vi x4), some (vi x5), some (vi 1), some (vi x7), some (vi v4), some (vi v6), none, none, none], [vi 4, vi v8, vr 0], (Wd S L F9 G h))) (by decide) [0] rfl trivial ?_
    refine wp.cl am_m117 rfl am_m72 7 [vr 0, vi v8, vi 4] [] rfl (Nat.le_of_ble_eq_true rfl) ⟨(Nat.le_of_ble_eq_true rfl), (Nat.le_of_ble_eq_true rfl)⟩ rfl (Nat.le_of_ble_eq_true rfl) rfl (Nat.le_of_ble_eq_true rfl) (Nat.le_of_ble_eq_true rfl) ⟨_, _, rfl, Nat.le_of_ble_eq_true rfl, rfl⟩ ?_
    refine wp.mono H ?_
    rintro v w1 ⟨v10, rfl, rfl, H⟩
    show wp 12 117 (85, [some (vr 0), some (vi x1), some (vi x2), some (vi x3), some (vi x4), some (vi x5), some (vi 1), some (vi x7), some (vi v4), some (vi v6), none, none, none], [vi v10], (Wd S L F9 G h)) _
    obtain ⟨g11, H⟩ := H
    refine pt117 (s' := (86, [some (vr 0), some (vi x1), some (vi x2), some (vi x3), some (vi x4), some (vi x5), some (vi 1), some (vi x7), some (vi v4), some (vi v6), none, none, none], [vi 1, vi v10], (Wd S L F9 G h))) (by decide) [0] rfl trivial ?_
    by_cases c12 : v10 = 1
    · rw [if_pos c12] at H
      refine pt117 (s' := (96, [some (vr 0), some (vi x1), some (vi x2), some (vi x3), some (vi x4), some (vi x5), some (vi 1), some (vi x7), some (vi v4), some (vi v6), some (vi 1), none, none], [], (Wd S L F9 G h))) (by decide) [0, 0, 0, 0] rfl ⟨trivial, ⟨⟨g11, (by decide : R32 1)⟩, c12⟩⟩ ?_
      exact wp.weak (a := [some (vr 0), some (vi x1), some (vi x2), some (vi x3), some (vi x4), some (vi x5), none, some (vi x7), some (vi v4), some (vi v6), some (vi 1), none, none]) ⟨rfl, rfl, rfl, rfl, rfl, rfl, rfl, rfl, rfl, rfl, trivial⟩ H
    · rw [if_neg c12] at H
      refine pt117 (s' := (96, [some (vr 0), some (vi x1), some (vi x2), some (vi x3), some (vi x4), some (vi x5), some (vi 1), some (vi x7), some (vi v4), some (vi v6), some (vi 0), none, none], [], (Wd S L F9 G h))) (by decide) [1, 0, 0] rfl ⟨trivial, ⟨⟨g11, (by decide : R32 1)⟩, c12⟩⟩ ?_
      exact wp.weak (a := [some (vr 0), some (vi x1), some (vi x2), some (vi x3), some (vi x4), some (vi x5), none, some (vi x7), some (vi v4), some (vi v6), some (vi 0), none, none]) ⟨rfl, rfl, rfl, rfl, rfl, rfl, rfl, rfl, rfl, rfl, trivial⟩ H
set_option maxRecDepth 100000 in
set_option maxHeartbeats 4000000 in
theorem T117_96 {S L : Nat} {F G : Nat → Nat → Int} {h : Nat → Nat → Option Nat} (hh : RfH h) {x1 : Int} {x2 : Int} {x3 : Int} {x4 : Int} {x5 : Int} {x7 : Int} {x8 : Int} {x9 : Int} {x10 : Int}  {Q : Option V2 → W2 → Prop}
    (H : C73_0 x7 2 (Wd S L F G h) (fun v w1 => ∃ (v1 : Int) (F2 : Nat → Nat → Int), v = some (vi v1) ∧ w1 = (Wd S L F2 G h) ∧
  (R32 v1 ∧
  R32 x3 ∧
  v1 = x3 ∧
  C73_0 x7 3 (Wd S L F2 G h) (fun v w1 => ∃ (v6 : Int) (F7 : Nat → Nat → Int), v = some (vi v6) ∧ w1 = (Wd S L F7 G h) ∧
   (R32 v6 ∧
   R32 x2 ∧
   v6 = x2 ∧
   R32 x8 ∧
   ¬ (x8 < 0) ∧
   R32 x9 ∧
   (if x9 = 0 then
    C117_139 x1 x2 x3 x4 x5 x7 x8 x9 x10 (Wd S L F7 G h) Q
   else
    (R32 x10 ∧
    ¬ (x10 = 0) ∧
    x8 = 1 ∧
    C117_139 x1 x2 x3 x4 x5 x7 x8 x9 x10 (Wd S L F7 G h) Q))))))) : C117_96 x1 x2 x3 x4 x5 x7 x8 x9 x10 (Wd S L F G h) Q := by
  refine pt117 (s' := (100, [some (vr 0), some (vi x1), some (vi x2), some (vi x3), some (vi x4), some (vi x5), none, some (vi x7), some (vi x8), some (vi x9), some (vi x10), none, none], [vi 2, vi x7, vr 0], (Wd S L F G h))) (by decide) [0, 0, 0] rfl trivial ?_
  refine wp.cl am_m117 rfl am_m73 11 [vr 0, vi x7, vi 2] [] rfl (Nat.le_of_ble_eq_true rfl) ⟨(Nat.le_of_ble_eq_true rfl), (Nat.le_of_ble_eq_true rfl)⟩ rfl (Nat.le_of_ble_eq_true rfl) rfl (Nat.le_of_ble_eq_true rfl) (Nat.le_of_ble_eq_true rfl) ⟨_, _, rfl, Nat.le_of_ble_eq_true rfl, rfl⟩ ?_
  refine wp.mono H ?_
  rintro v w1 ⟨v1, F2, rfl, rfl, H⟩
  show wp 12 117 (103, [some (vr 0), some (vi x1), some (vi x2), some (vi x3), some (vi x4), some (vi x5), none, some (vi x7), some (vi x8), some (vi x9), some (vi x10), none, none], [vi v1], (Wd S L F2 G h)) _
  obtain ⟨g3, H⟩ := H
  obtain ⟨g4, H⟩ := H
  obtain ⟨g5, H⟩ := H
  refine pt117 (s' := (111, [some (vr 0), some (vi x1), some (vi x2), some (vi x3), some (vi x4), some (vi x5), none, some (vi x7), some (vi x8), some (vi x9), some (vi x10), none, none], [vi 3, vi x7, vr 0], (Wd S L F2 G h))) (by decide) [0, 0, 0, 0, 0] rfl ⟨trivial, ⟨⟨g3, g4⟩, g5⟩⟩ ?_
  refine wp.cl am_m117 rfl am_m73 11 [vr 0, vi x7, vi 3] [] rfl (Nat.le_of_ble_eq_true rfl) ⟨(Nat.le_of_ble_eq_true rfl), (Nat.le_of_ble_eq_true rfl)⟩ rfl (Nat.le_of_ble_eq_true rfl) rfl (Nat.le_of_ble_eq_true rfl) (Nat.le_of_ble_eq_true rfl) ⟨_, _, rfl, Nat.le_of_ble_eq_true rfl, rfl⟩ ?_
  refine wp.mono H ?_
  rintro v w1 ⟨v6, F7, rfl, rfl, H⟩
  show wp 12 117 (114, [some (vr 0), some (vi x1), some (vi x2), some (vi x3), some (vi x4), some (vi x5), none, some (vi x7), some (vi x8), some (vi x9), some (vi x10), none, none], [vi v6], (Wd S L F7 G h)) _
  obtain ⟨g8, H⟩ := H
  obtain ⟨g9, H⟩ := H
  obtain ⟨g10, H⟩ := H
  obtain ⟨g11, H⟩ := H
  obtain ⟨g12, H⟩ := H
  obtain ⟨g13, H⟩ := H
  refine pt117 (s' := (125, [some (vr 0), some (vi x1), some (vi x2), some (vi x3), some (vi x4), some (vi x5), none, some (vi x7), some (vi x8), some (vi x9), some (vi x10), none, none], [vi x9], (Wd S L F7 G h))) (by decide) [0, 0, 0, 0, 0] rfl ⟨⟨trivial, ⟨⟨g8, g9⟩, g10⟩⟩, ⟨g11, g12⟩⟩ ?_
  by_cases c14 : x9 = 0
  · rw [if_pos c14] at H
    refine pt117 (s' := (139, [some (vr 0), some (vi x1), some (vi x2), some (vi x3), some (vi x4), some (vi x5), none, some (vi x7), some (vi x8), some (vi x9), some (vi x10), none, none], [], (Wd S L F7 G h))) (by decide) [1] rfl ⟨trivial, ⟨g13, c14⟩⟩ ?_
    exact wp.weak (a := [some (vr 0), some (vi x1), some (vi x2), some (vi x3), some (vi x4), some (vi x5), none, some (vi x7), some (vi x8), some (vi x9), some (vi x10), none, none]) ⟨rfl, rfl, rfl, rfl, rfl, rfl, rfl, rfl, rfl, rfl, trivial⟩ H
  · rw [if_neg c14] at H
    obtain ⟨g15, H⟩ := H
    obtain ⟨g16, H⟩ := H
    obtain ⟨g17, H⟩ := H
    refine pt117 (s' := (139, [some (vr 0), some (vi x1), some (vi x2), some (vi x3), some (vi x4), some (vi x5), none, some (vi x7), some (vi x8), some (vi x9), some (vi x10), none, none], [], (Wd S L F7 G h))) (by decide) [0, 0, 0, 0, 0, 0] rfl ⟨⟨⟨trivial, ⟨g13, c14⟩⟩, ⟨g15, g16⟩⟩, ⟨⟨g11, (by decide : R32 1)⟩, g17⟩⟩ ?_
    exact wp.weak (a := [some (vr 0), some (vi x1), some (vi x2), some (vi x3), some (vi x4), some (vi x5), none, some (vi x7), some (vi x8), some (vi x9), some (vi x10), none, none]) ⟨rfl, rfl, rfl, rfl, rfl, rfl, rfl, rfl, rfl, rfl, trivial⟩ H
set_option maxRecDepth 100000 in
set_option maxHeartbeats 4000000 in
theorem T117_139 {S L : Nat} {F G : Nat → Nat → Int} {h : Nat → Nat → Option Nat} (hh : RfH h) {x1 : Int} {x2 : Int} {x3 : Int} {x4 : Int} {x5 : Int} {x7 : Int} {x8 : Int} {x9 : Int} {x10 : Int}  {Q : Option V2 → W2 → Prop}
    (H : (R32 x9 ∧
 (if x9 = 1 then
  (R32 x7 ∧
  ¬ (x7 ≤ 0) ∧
  C73_0 (x7 - 1) 4 (Wd S L F G h) (fun v w1 => ∃ (v5 : Int) (F6 : Nat → Nat → Int), v = some (vi v5) ∧ w1 = (Wd S L F6 G h) ∧
   (R32 v5 ∧
   ¬ (v5 ≤ 0) ∧
   C117_162 x1 x2 x3 x4 x5 x7 x8 x9 x10 (Wd S L F6 G h) Q)))
 else
  C117_162 x1 x2 x3 x4 x5 x7 x8 x9 x10 (Wd S L F G h) Q))) : C117_139 x1 x2 x3 x4 x5 x7 x8 x9 x10 (Wd S L F G h) Q := by
  obtain ⟨g1, H⟩ := H
  refine pt117 (s' := (142, [some (vr 0), some (vi x1), some (vi x2), some (vi x3), some (vi x4), some (vi x5), none, some (vi x7), some (vi x8), some (vi x9), some (vi x10), none, none], [vi 1, vi x9], (Wd S L F G h))) (by decide) [0, 0] rfl trivial ?_
  by_cases c2 : x9 = 1
  · rw [if_pos c2] at H
    obtain ⟨g3, H⟩ := H
    obtain ⟨g4, H⟩ := H
    refine pt117 (s' := (156, [some (vr 0), some (vi x1), some (vi x2), some (vi x3), some (vi x4), some (vi x5), none, some (vi x7), some (vi x8), some (vi x9), some (vi x10), none, none], [vi 4, vi (x7 - 1), vr 0], (Wd S L F G h))) (by decide) [0, 0, 0, 0, 0, 0, 0, 0] rfl ⟨⟨trivial, ⟨⟨g1, (by decide : R32 1)⟩, c2⟩⟩, ⟨g3, g4⟩⟩ ?_
    refine wp.cl am_m117 rfl am_m73 11 [vr 0, vi (x7 - 1), vi 4] [] rfl (Nat.le_of_ble_eq_true rfl) ⟨(Nat.le_of_ble_eq_true rfl), (Nat.le_of_ble_eq_true rfl)⟩ rfl (Nat.le_of_ble_eq_true rfl) rfl (Nat.le_of_ble_eq_true rfl) (Nat.le_of_ble_eq_true rfl) ⟨_, _, rfl, Nat.le_of_ble_eq_true rfl, rfl⟩ ?_
    refine wp.mono H ?_
    rintro v w1 ⟨v5, F6, rfl, rfl, H⟩
    show wp 12 117 (159, [some (vr 0), some (vi x1), some (vi x2), some (vi x3), some (vi x4), some (vi x5), none, some (vi x7), some (vi x8), some (vi x9), some (vi x10), none, none], [vi v5], (Wd S L F6 G h)) _
    obtain ⟨g7, H⟩ := H
    obtain ⟨g8, H⟩ := H
    refine pt117 (s' := (162, [some (vr 0), some (vi x1), some (vi x2), some (vi x3), some (vi x4), some (vi x5), none, some (vi x7), some (vi x8), some (vi x9), some (vi x10), none, none], [], (Wd S L F6 G h))) (by decide) [0] rfl ⟨trivial, ⟨g7, g8⟩⟩ ?_
    exact wp.weak (a := [some (vr 0), some (vi x1), some (vi x2), some (vi x3), some (vi x4), some (vi x5), none, some (vi x7), some (vi x8), some (vi x9), some (vi x10), none, none]) ⟨rfl, rfl, rfl, rfl, rfl, rfl, rfl, rfl, rfl, rfl, trivial⟩ H
  · rw [if_neg c2] at H
    refine pt117 (s' := (162, [some (vr 0), some (vi x1), some (vi x2), some (vi x3), some (vi x4), some (vi x5), none, some (vi x7), some (vi x8), some (vi x9), some (vi x10), none, none], [], (Wd S L F G h))) (by decide) [1] rfl ⟨trivial, ⟨⟨g1, (by decide : R32 1)⟩, c2⟩⟩ ?_
    exact wp.weak (a := [some (vr 0), some (vi x1), some (vi x2), some (vi x3), some (vi x4), some (vi x5), none, some (vi x7), some (vi x8), some (vi x9), some (vi x10), none, none]) ⟨rfl, rfl, rfl, rfl, rfl, rfl, rfl, rfl, rfl, rfl, trivial⟩ H
set_option maxRecDepth 100000 in
set_option maxHeartbeats 4000000 in
theorem T117_162 {S L : Nat} {F G : Nat → Nat → Int} {h : Nat → Nat → Option Nat} (hh : RfH h) {x1 : Int} {x2 : Int} {x3 : Int} {x4 : Int} {x5 : Int} {x7 : Int} {x8 : Int} {x9 : Int} {x10 : Int}  {Q : Option V2 → W2 → Prop}
    (H : (R32 x9 ∧
 (if x9 = 2 then
  (R32 (x7 + 1) ∧
  R32 x1 ∧
  ¬ (x1 ≤ (x7 + 1)) ∧
  C73_0 (x7 + 1) 4 (Wd S L F G h) (fun v w1 => ∃ (v6 : Int) (F7 : Nat → Nat → Int), v = some (vi v6) ∧ w1 = (Wd S L F7 G h) ∧
   (R32 v6 ∧
   ¬ (v6 ≤ 0) ∧
   C117_188 x1 x2 x3 x4 x5 x7 x8 x9 x10 (Wd S L F7 G h) Q)))
 else
  C117_188 x1 x2 x3 x4 x5 x7 x8 x9 x10 (Wd S L F G h) Q))) : C117_162 x1 x2 x3 x4 x5 x7 x8 x9 x10 (Wd S L F G h) Q := by
  obtain ⟨g1, H⟩ := H
  refine pt117 (s' := (165, [some (vr 0), some (vi x1), some (vi x2), some (vi x3), some (vi x4), some (vi x5), none, some (vi x7), some (vi x8), some (vi x9), some (vi x10), none, none], [vi 2, vi x9], (Wd S L F G h))) (by decide) [0, 0] rfl trivial ?_
  by_cases c2 : x9 = 2
  · rw [if_pos c2] at H
    obtain ⟨g3, H⟩ := H
    obtain ⟨g4, H⟩ := H
    obtain ⟨g5, H⟩ := H
    refine pt117 (s' := (182, [some (vr 0), some (vi x1), some (vi x2), some (vi x3), some (vi x4), some (vi x5), none, some (vi x7), some (vi x8), some (vi x9), some (vi x10), none, none], [vi 4, vi (x7 + 1), vr 0], (Wd S L F G h))) (by decide) [0, 0, 0, 0, 0, 0, 0, 0, 0, 0, 0] rfl ⟨⟨trivial, ⟨⟨g1, (by decide : R32 2)⟩, c2⟩⟩, ⟨⟨g3, g4⟩, g5⟩⟩ ?_
    refine wp.cl am_m117 rfl am_m73 11 [vr 0, vi (x7 + 1), vi 4] [] rfl (Nat.le_of_ble_eq_true rfl) ⟨(Nat.le_of_ble_eq_true rfl), (Nat.le_of_ble_eq_true rfl)⟩ rfl (Nat.le_of_ble_eq_true rfl) rfl (Nat.le_of_ble_eq_true rfl) (Nat.le_of_ble_eq_true rfl) ⟨_, _, rfl, Nat.le_of_ble_eq_true rfl, rfl⟩ ?_
    refine wp.mono H ?_
    rintro v w1 ⟨v6, F7, rfl, rfl, H⟩
    show wp 12 117 (185, [some (vr 0), some (vi x1), some (vi x2), some (vi x3), some (vi x4), some (vi x5), none, some (vi x7), some (vi x8), some (vi x9), some (vi x10), none, none], [vi v6], (Wd S L F7 G h)) _
    obtain ⟨g8, H⟩ := H
    obtain ⟨g9, H⟩ := H
    refine pt117 (s' := (188, [some (vr 0), some (vi x1), some (vi x2), some (vi x3), some (vi x4), some (vi x5), none, some (vi x7), some (vi x8), some (vi x9), some (vi x10), none, none], [], (Wd S L F7 G h))) (by decide) [0] rfl ⟨trivial, ⟨g8, g9⟩⟩ ?_
    exact wp.weak (a := [some (vr 0), some (vi x1), some (vi x2), some (vi x3), some (vi x4), some (vi x5), none, some (vi x7), some (vi x8), some (vi x9), some (vi x10), none, none]) ⟨rfl, rfl, rfl, rfl, rfl, rfl, rfl, rfl, rfl, rfl, trivial⟩ H
  · rw [if_neg c2] at H
    refine pt117 (s' := (188, [some (vr 0), some (vi x1), some (vi x2), some (vi x3), some (vi x4), some (vi x5), none, some (vi x7), some (vi x8), some (vi x9), some (vi x10), none, none], [], (Wd S L F G h))) (by decide) [1] rfl ⟨trivial, ⟨⟨g1, (by decide : R32 2)⟩, c2⟩⟩ ?_
    exact wp.weak (a := [some (vr 0), some (vi x1), some (vi x2), some (vi x3), some (vi x4), some (vi x5), none, some (vi x7), some (vi x8), some (vi x9), some (vi x10), none, none]) ⟨rfl, rfl, rfl, rfl, rfl, rfl, rfl, rfl, rfl, rfl, trivial⟩ H
set_option maxRecDepth 100000 in
set_option maxHeartbeats 4000000 in
theorem T117_188 {S L : Nat} {F G : Nat → Nat → Int} {h : Nat → Nat → Option Nat} (hh : RfH h) {x1 : Int} {x2 : Int} {x3 : Int} {x4 : Int} {x5 : Int} {x7 : Int} {x8 : Int} {x9 : Int} {x10 : Int}  {Q : Option V2 → W2 → Prop}
    (H : (R32 x9 ∧
 ¬ (x9 < 0) ∧
 ¬ (2 < x9) ∧
 C73_0 x7 6 (Wd S L F G h) (fun v w1 => ∃ (v4 : Int) (F5 : Nat → Nat → Int), v = some (vi v4) ∧ w1 = (Wd S L F5 G h) ∧
  (R32 x10 ∧
  (if x10 = 0 then
   (R32 v4 ∧
   v4 = 0 ∧
   C117_232 x1 x2 x3 x4 x5 x7 x8 (Wd S L F5 G h) Q)
  else
   (R32 x8 ∧
   (if x8 = 0 then
    (R32 v4 ∧
    v4 = 1 ∧
    C117_232 x1 x2 x3 x4 x5 x7 x8 (Wd S L F5 G h) Q)
   else
    (R32 v4 ∧
    v4 = 0 ∧
    C117_232 x1 x2 x3 x4 x5 x7 x8 (Wd S L F5 G h) Q)))))))) : C117_188 x1 x2 x3 x4 x5 x7 x8 x9 x10 (Wd S L F G h) Q := by
  obtain ⟨g1, H⟩ := H
  obtain ⟨g2, H⟩ := H
  obtain ⟨g3, H⟩ := H
  refine pt117 (s' := (204, [some (vr 0), some (vi x1), some (vi x2), some (vi x3), some (vi x4), some (vi x5), none, some (vi x7), some (vi x8), some (vi x9), some (vi x10), none, none], [vi 6, vi x7, vr 0], (Wd S L F G h))) (by decide) [0, 0, 0, 0, 0, 0, 0, 0] rfl ⟨⟨trivial, ⟨g1, g2⟩⟩, ⟨⟨g1, (by decide : R32 2)⟩, g3⟩⟩ ?_
  refine wp.cl am_m117 rfl am_m73 11 [vr 0, vi x7, vi 6] [] rfl (Nat.le_of_ble_eq_true rfl) ⟨(Nat.le_of_ble_eq_true rfl), (Nat.le_of_ble_eq_true rfl)⟩ rfl (Nat.le_of_ble_eq_true rfl) rfl (Nat.le_of_ble_eq_true rfl) (Nat.le_of_ble_eq_true rfl) ⟨_, _, rfl, Nat.le_of_ble_eq_true rfl, rfl⟩ ?_
  refine wp.mono H ?_
  rintro v w1 ⟨v4, F5, rfl, rfl, H⟩
  show wp 12 117 (207, [some (vr 0), some (vi x1), some (vi x2), some (vi x3), some (vi x4), some (vi x5), none, some (vi x7), some (vi x8), some (vi x9), some (vi x10), none, none], [vi v4], (Wd S L F5 G h)) _
  obtain ⟨g6, H⟩ := H
  refine pt117 (s' := (209, [some (vr 0), some (vi x1), some (vi x2), some (vi x3), some (vi x4), some (vi x5), none, some (vi x7), some (vi x8), some (vi x9), some (vi x10), none, none], [vi x10, vi v4], (Wd S L F5 G h))) (by decide) [0] rfl trivial ?_
  by_cases c7 : x10 = 0
  · rw [if_pos c7] at H
    obtain ⟨g8, H⟩ := H
    obtain ⟨g9, H⟩ := H
    refine pt117 (s' := (232, [some (vr 0), some (vi x1), some (vi x2), some (vi x3), some (vi x4), some (vi x5), some (vi 1), some (vi x7), some (vi x8), some (vi x9), some (vi x10), none, none], [], (Wd S L F5 G h))) (by decide) [1, 0, 0, 0, 0, 0] rfl ⟨⟨trivial, ⟨g6, c7⟩⟩, ⟨⟨g8, (by decide : R32 0)⟩, g9⟩⟩ ?_
    exact wp.weak (a := [some (vr 0), some (vi x1), some (vi x2), some (vi x3), some (vi x4), some (vi x5), some (vi 1), some (vi x7), some (vi x8), none, none, none, none]) ⟨rfl, rfl, rfl, rfl, rfl, rfl, rfl, rfl, rfl, trivial⟩ H
  · rw [if_neg c7] at H
    obtain ⟨g10, H⟩ := H
    refine pt117 (s' := (214, [some (vr 0), some (vi x1), some (vi x2), some (vi x3), some (vi x4), some (vi x5), none, some (vi x7), some (vi x8), some (vi x9), some (vi x10), none, none], [vi x8, vi v4], (Wd S L F5 G h))) (by decide) [0, 0] rfl ⟨trivial, ⟨g6, c7⟩⟩ ?_
    by_cases c11 : x8 = 0
    · rw [if_pos c11] at H
      obtain ⟨g12, H⟩ := H
      obtain ⟨g13, H⟩ := H
      refine pt117 (s' := (232, [some (vr 0), some (vi x1), some (vi x2), some (vi x3), some (vi x4), some (vi x5), some (vi 1), some (vi x7), some (vi x8), some (vi x9), some (vi x10), none, none], [], (Wd S L F5 G h))) (by decide) [0, 0, 0, 0, 0, 0, 0] rfl ⟨⟨trivial, ⟨g10, c11⟩⟩, ⟨⟨g12, (by decide : R32 1)⟩, g13⟩⟩ ?_
      exact wp.weak (a := [some (vr 0), some (vi x1), some (vi x2), some (vi x3), some (vi x4), some (vi x5), some (vi 1), some (vi x7), some (vi x8), none, none, none, none]) ⟨rfl, rfl, rfl, rfl, rfl, rfl, rfl, rfl, rfl, trivial⟩ H
    · rw [if_neg c11] at H
      obtain ⟨g14, H⟩ := H
      obtain ⟨g15, H⟩ := H
      refine pt117 (s' := (232, [some (vr 0), some (vi x1), some (vi x2), some (vi x3), some (vi x4), some (vi x5), some (vi 1), some (vi x7), some (vi x8), some (vi x9), some (vi x10), none, none], [], (Wd S L F5 G h))) (by decide) [1, 0, 0, 0, 0, 0] rfl ⟨⟨trivial, ⟨g10, c11⟩⟩, ⟨⟨g14, (by decide : R32 0)⟩, g15⟩⟩ ?_
      exact wp.weak (a := [some (vr 0), some (vi x1), some (vi x2), some (vi x3), some (vi x4), some (vi x5), some (vi 1), some (vi x7), some (vi x8), none, none, none, none]) ⟨rfl, rfl, rfl, rfl, rfl, rfl, rfl, rfl, rfl, trivial⟩ H
set_option maxRecDepth 100000 in
set_option maxHeartbeats 4000000 in
theorem T117_232 {S L : Nat} {F G : Nat → Nat → Int} {h : Nat → Nat → Option Nat} (hh : RfH h) {x1 : Int} {x2 : Int} {x3 : Int} {x4 : Int} {x5 : Int} {x7 : Int} {x8 : Int}  {Q : Option V2 → W2 → Prop}
    (H : C117_235 x1 x2 x3 x4 x5 x7 x8 x2 (Wd S L F G h) Q) : C117_232 x1 x2 x3 x4 x5 x7 x8 (Wd S L F G h) Q := by
  refine pt117 (s' := (235, [some (vr 0), some (vi x1), some (vi x2), some (vi x3), some (vi x4), some (vi x5), some (vi 1), some (vi x7), some (vi x8), none, none, some (vi x2), none], [], (Wd S L F G h))) (by decide) [0, 0] rfl trivial ?_
  exact wp.weak (a := [some (vr 0), some (vi x1), some (vi x2), some (vi x3), some (vi x4), some (vi x5), some (vi 1), some (vi x7), some (vi x8), none, none, some (vi x2), none]) ⟨rfl, rfl, rfl, rfl, rfl, rfl, rfl, rfl, rfl, rfl, trivial⟩ H
set_option maxRecDepth 100000 in
set_option maxHeartbeats 4000000 in
theorem T117_235 {S L : Nat} {F G : Nat → Nat → Int} {h : Nat → Nat → Option Nat} (hh : RfH h) {x1 : Int} {x2 : Int} {x3 : Int} {x4 : Int} {x5 : Int} {x7 : Int} {x8 : Int} {x11 : Int}  {Q : Option V2 → W2 → Prop}
    (H : (R32 x11 ∧
 R32 (x2 + x8) ∧
 (if (x2 + x8) ≤ x11 then
  (R32 x8 ∧
  (if x8 = 0 then
   C73_0 x7 6 (Wd S L F G h) (fun v w1 => ∃ (v6 : Int) (F7 : Nat → Nat → Int), v = some (vi v6) ∧ w1 = (Wd S L F7 G h) ∧
    C73_0 x7 1 (Wd S L F7 G h) (fun v w1 => ∃ (v8 : Int) (F9 : Nat → Nat → Int), v = some (vi v8) ∧ w1 = (Wd S L F9 G h) ∧
     C117_44 x1 (x2 + x8) (x3 + v8) (x4 + 1) (x5 + v6) (x7 + 1) (Wd S L F9 G h) Q))
  else
   C73_0 x7 6 (Wd S L F G h) (fun v w1 => ∃ (v10 : Int) (F11 : Nat → Nat → Int), v = some (vi v10) ∧ w1 = (Wd S L F11 G h) ∧
    C73_0 x7 1 (Wd S L F11 G h) (fun v w1 => ∃ (v12 : Int) (F13 : Nat → Nat → Int), v = some (vi v12) ∧ w1 = (Wd S L F13 G h) ∧
     C117_44 x1 (x2 + x8) (x3 + v12) (x4 + 0) (x5 + v10) (x7 + 1) (Wd S L F13 G h) Q))))
 else
  C74_0 x11 0 (Wd S L F G h) (fun v w1 => ∃ (v14 : Int) (F15 : Nat → Nat → Int), v = some (vi v14) ∧ w1 = (Wd S L F15 G h) ∧
   (R32 v14 ∧
   R32 x7 ∧
   v14 = x7 ∧
   C74_0 x11 1 (Wd S L F15 G h) (fun v w1 => ∃ (v19 : Int) (F20 : Nat → Nat → Int), v = some (vi v19) ∧ w1 = (Wd S L F20 G h) ∧
    C73_0 x7 0 (Wd S L F20 G h) (fun v w1 => ∃ (v21 : Int) (F22 : Nat → Nat → Int), v = some (vi v21) ∧ w1 = (Wd S L F22 G h) ∧
     C72_0 v21 0 (Wd S L F22 G h) (fun v w1 => ∃ (v23 : Int), v = some (vi v23) ∧ w1 = (Wd S L F22 G h) ∧
      (R32 v19 ∧
      R32 v23 ∧
      v19 = v23 ∧
      C117_235 x1 x2 x3 x4 x5 x7 x8 (x11 + 1) (Wd S L F22 G h) Q))))))))) : C117_235 x1 x2 x3 x4 x5 x7 x8 x11 (Wd S L F G h) Q := by
  obtain ⟨g1, H⟩ := H
  obtain ⟨g2, H⟩ := H
  refine pt117 (s' := (241, [some (vr 0), some (vi x1), some (vi x2), some (vi x3), some (vi x4), some (vi x5), some (vi 1), some (vi x7), some (vi x8), none, none, some (vi x11), none], [vi (x2 + x8), vi x11], (Wd S L F G h))) (by decide) [0, 0, 0, 0] rfl trivial ?_
  by_cases c3 : (x2 + x8) ≤ x11
  · rw [if_pos c3] at H
    obtain ⟨g4, H⟩ := H
    refine pt117 (s' := (300, [some (vr 0), some (vi x1), some (vi x2), some (vi x3), some (vi x4), some (vi x5), some (vi 1), some (vi x7), some (vi x8), none, none, some (vi x11), none], [vi x8, vi x4], (Wd S L F G h))) (by decide) [1, 0, 0] rfl ⟨trivial, ⟨⟨g1, g2⟩, c3⟩⟩ ?_
    by_cases c5 : x8 = 0
    · rw [if_pos c5] at H
      refine pt117 (s' := (318, [some (vr 0), some (vi x1), some (vi x2), some (vi x3), some (vi (x4 + 1)), some (vi x5), some (vi 1), some (vi x7), some (vi x8), none, none, some (vi x11), none], [vi 6, vi x7, vr 0, vi x5], (Wd S L F G h))) (by decide) [0, 0, 0, 0, 0, 0, 0, 0, 0] rfl ⟨trivial, ⟨g4, c5⟩⟩ ?_
      refine wp.cl am_m117 rfl am_m73 11 [vr 0, vi x7, vi 6] [vi x5] rfl (Nat.le_of_ble_eq_true rfl) ⟨(Nat.le_of_ble_eq_true rfl), (Nat.le_of_ble_eq_true rfl)⟩ rfl (Nat.le_of_ble_eq_true rfl) rfl (Nat.le_of_ble_eq_true rfl) (Nat.le_of_ble_eq_true rfl) ⟨_, _, rfl, Nat.le_of_ble_eq_true rfl, rfl⟩ ?_
      refine wp.mono H ?_
      rintro v w1 ⟨v6, F7, rfl, rfl, H⟩
      show wp 12 117 (321, [some (vr 0), some (vi x1), some (vi x2), some (vi x3), some (vi (x4 + 1)), some (vi x5), some (vi 1), some (vi x7), some (vi x8), none, none, some (vi x11), none], [vi v6, vi x5], (Wd S L F7 G h)) _
      refine pt117 (s' := (334, [some (vr 0), some (vi x1), some (vi (x2 + x8)), some (vi x3), some (vi (x4 + 1)), some (vi (x5 + v6)), some (vi 1), some (vi x7), some (vi x8), none, none, some (vi x11), none], [vi 1, vi x7, vr 0, vi x3], (Wd S L F7 G h))) (by decide) [0, 0, 0, 0, 0, 0, 0, 0, 0, 0] rfl trivial ?_
      refine wp.cl am_m117 rfl am_m73 11 [vr 0, vi x7, vi 1] [vi x3] rfl (Nat.le_of_ble_eq_true rfl) ⟨(Nat.le_of_ble_eq_true rfl), (Nat.le_of_ble_eq_true rfl)⟩ rfl (Nat.le_of_ble_eq_true rfl) rfl (Nat.le_of_ble_eq_true rfl) (Nat.le_of_ble_eq_true rfl) ⟨_, _, rfl, Nat.le_of_ble_eq_true rfl, rfl⟩ ?_
      refine wp.mono H ?_
      rintro v w1 ⟨v8, F9, rfl, rfl, H⟩
      show wp 12 117 (337, [some (vr 0), some (vi x1), some (vi (x2 + x8)), some (vi x3), some (vi (x4 + 1)), some (vi (x5 + v6)), some (vi 1), some (vi x7), some (vi x8), none, none, some (vi x11), none], [vi v8, vi x3], (Wd S L F9 G h)) _
      refine pt117 (s' := (44, [some (vr 0), some (vi x1), some (vi (x2 + x8)), some (vi (x3 + v8)), some (vi (x4 + 1)), some (vi (x5 + v6)), some (vi 1), some (vi (x7 + 1)), some (vi x8), none, none, some (vi x11), none], [], (Wd S L F9 G h))) (by decide) [0, 0, 0, 0] rfl trivial ?_
      exact wp.weak (a := [some (vr 0), some (vi x1), some (vi (x2 + x8)), some (vi (x3 + v8)), some (vi (x4 + 1)), some (vi (x5 + v6)), some (vi 1), some (vi (x7 + 1)), none, none, none, none, none]) ⟨rfl, rfl, rfl, rfl, rfl, rfl, rfl, rfl, trivial⟩ H
    · rw [if_neg c5] at H
      refine pt117 (s' := (318, [some (vr 0), some (vi x1), some (vi x2), some (vi x3), some (vi (x4 + 0)), some (vi x5), some (vi 1), some (vi x7), some (vi x8), none, none, some (vi x11), none], [vi 6, vi x7, vr 0, vi x5], (Wd S L F G h))) (by decide) [1, 0, 0, 0, 0, 0, 0, 0] rfl ⟨trivial, ⟨g4, c5⟩⟩ ?_
      refine wp.cl am_m117 rfl am_m73 11 [vr 0, vi x7, vi 6] [vi x5] rfl (Nat.le_of_ble_eq_true rfl) ⟨(Nat.le_of_ble_eq_true rfl), (Nat.le_of_ble_eq_true rfl)⟩ rfl (Nat.le_of_ble_eq_true rfl) rfl (Nat.le_of_ble_eq_true rfl) (Nat.le_of_ble_eq_true rfl) ⟨_, _, rfl, Nat.le_of_ble_eq_true rfl, rfl⟩ ?_
      refine wp.mono H ?_
      rintro v w1 ⟨v10, F11, rfl, rfl, H⟩
      show wp 12 117 (321, [some (vr 0), some (vi x1), some (vi x2), some (vi x3), some (vi (x4 + 0)), some (vi x5), some (vi 1), some (vi x7), some (vi x8), none, none, some (vi x11), none], [vi v10, vi x5], (Wd S L F11 G h)) _
      refine pt117 (s' := (334, [some (vr 0), some (vi x1), some (vi (x2 + x8)), some (vi x3), some (vi (x4 + 0)), some (vi (x5 + v10)), some (vi 1), some (vi x7), some (vi x8), none, none, some (vi x11), none], [vi 1, vi x7, vr 0, vi x3], (Wd S L F11 G h))) (by decide) [0, 0, 0, 0, 0, 0, 0, 0, 0, 0] rfl trivial ?_
      refine wp.cl am_m117 rfl am_m73 11 [vr 0, vi x7, vi 1] [vi x3] rfl (Nat.le_of_ble_eq_true rfl) ⟨(Nat.le_of_ble_eq_true rfl), (Nat.le_of_ble_eq_true rfl)⟩ rfl (Nat.le_of_ble_eq_true rfl) rfl (Nat.le_of_ble_eq_true rfl) (Nat.le_of_ble_eq_true rfl) ⟨_, _, rfl, Nat.le_of_ble_eq_true rfl, rfl⟩ ?_
      refine wp.mono H ?_
      rintro v w1 ⟨v12, F13, rfl, rfl, H⟩
      show wp 12 117 (337, [some (vr 0), some (vi x1), some (vi (x2 + x8)), some (vi x3), some (vi (x4 + 0)), some (vi (x5 + v10)), some (vi 1), some (vi x7), some (vi x8), none, none, some (vi x11), none], [vi v12, vi x3], (Wd S L F13 G h)) _
      refine pt117 (s' := (44, [some (vr 0), some (vi x1), some (vi (x2 + x8)), some (vi (x3 + v12)), some (vi (x4 + 0)), some (vi (x5 + v10)), some (vi 1), some (vi (x7 + 1)), some (vi x8), none, none, some (vi x11), none], [], (Wd S L F13 G h))) (by decide) [0, 0, 0, 0] rfl trivial ?_
      exact wp.weak (a := [some (vr 0), some (vi x1), some (vi (x2 + x8)), some (vi (x3 + v12)), some (vi (x4 + 0)), some (vi (x5 + v10)), some (vi 1), some (vi (x7 + 1)), none, none, none, none, none]) ⟨rfl, rfl, rfl, rfl, rfl, rfl, rfl, rfl, trivial⟩ H
  · rw [if_neg c3] at H
    refine pt117 (s' := (253, [some (vr 0), some (vi x1), some (vi x2), some (vi x3), some (vi x4), some (vi x5), some (vi 1), some (vi x7), some (vi x8), none, none, some (vi x11), none], [vi 0, vi x11, vr 0], (Wd S L F G h))) (by decide) [0, 0, 0, 0, 0, 0] rfl ⟨⟨trivial, ⟨⟨g1, g2⟩, c3⟩⟩, ⟨(by decide : R32 1), (by decide : ¬ (1 : Int) = (0 : Int))⟩⟩ ?_
    refine wp.cl am_m117 rfl am_m74 11 [vr 0, vi x11, vi 0] [] rfl (Nat.le_of_ble_eq_true rfl) ⟨(Nat.le_of_ble_eq_true rfl), (Nat.le_of_ble_eq_true rfl)⟩ rfl (Nat.le_of_ble_eq_true rfl) rfl (Nat.le_of_ble_eq_true rfl) (Nat.le_of_ble_eq_true rfl) ⟨_, _, rfl, Nat.le_of_ble_eq_true rfl, rfl⟩ ?_
    refine wp.mono H ?_
    rintro v w1 ⟨v14, F15, rfl, rfl, H⟩
    show wp 12 117 (256, [some (vr 0), some (vi x1), some (vi x2), some (vi x3), some (vi x4), some (vi x5), some (vi 1), some (vi x7), some (vi x8), none, none, some (vi x11), none], [vi v14], (Wd S L F15 G h)) _
    obtain ⟨g16, H⟩ := H
    obtain ⟨g17, H⟩ := H
    obtain ⟨g18, H⟩ := H
    refine pt117 (s' := (265, [some (vr 0), some (vi x1), some (vi x2), some (vi x3), some (vi x4), some (vi x5), some (vi 1), some (vi x7), some (vi x8), none, none, some (vi x11), none], [vi 1, vi x11, vr 0], (Wd S L F15 G h))) (by decide) [0, 0, 0, 0, 0] rfl ⟨trivial, ⟨⟨g16, g17⟩, g18⟩⟩ ?_
    refine wp.cl am_m117 rfl am_m74 11 [vr 0, vi x11, vi 1] [] rfl (Nat.le_of_ble_eq_true rfl) ⟨(Nat.le_of_ble_eq_true rfl), (Nat.le_of_ble_eq_true rfl)⟩ rfl (Nat.le_of_ble_eq_true rfl) rfl (Nat.le_of_ble_eq_true rfl) (Nat.le_of_ble_eq_true rfl) ⟨_, _, rfl, Nat.le_of_ble_eq_true rfl, rfl⟩ ?_
    refine wp.mono H ?_
    rintro v w1 ⟨v19, F20, rfl, rfl, H⟩
    show wp 12 117 (268, [some (vr 0), some (vi x1), some (vi x2), some (vi x3), some (vi x4), some (vi x5), some (vi 1), some (vi x7), some (vi x8), none, none, some (vi x11), none], [vi v19], (Wd S L F20 G h)) _
    refine pt117 (s' := (273, [some (vr 0), some (vi x1), some (vi x2), some (vi x3), some (vi x4), some (vi x5), some (vi 1), some (vi x7), some (vi x8), none, none, some (vi x11), none], [vi 0, vi x7, vr 0, vr 0, vi v19], (Wd S L F20 G h))) (by decide) [0, 0, 0, 0] rfl trivial ?_
    refine wp.cl am_m117 rfl am_m73 11 [vr 0, vi x7, vi 0] [vr 0, vi v19] rfl (Nat.le_of_ble_eq_true rfl) ⟨(Nat.le_of_ble_eq_true rfl), (Nat.le_of_ble_eq_true rfl)⟩ rfl (Nat.le_of_ble_eq_true rfl) rfl (Nat.le_of_ble_eq_true rfl) (Nat.le_of_ble_eq_true rfl) ⟨_, _, rfl, Nat.le_of_ble_eq_true rfl, rfl⟩ ?_
    refine wp.mono H ?_
    rintro v w1 ⟨v21, F22, rfl, rfl, H⟩
    show wp 12 117 (276, [some (vr 0), some (vi x1), some (vi x2), some (vi x3), some (vi x4), some (vi x5), some (vi 1), some (vi x7), some (vi x8), none, none, some (vi x11), none], [vi v21, vr 0, vi v19], (Wd S L F22 G h)) _
    refine pt117 (s' := (277, [some (vr 0), some (vi x1), some (vi x2), some (vi x3), some (vi x4), some (vi x5), some (vi 1), some (vi x7), some (vi x8), none, none, some (vi x11), none], [vi 0, vi v21, vr 0, vi v19], (Wd S L F22 G h))) (by decide) [0] rfl trivial ?_
    refine wp.cl am_m117 rfl am_m72 7 [vr 0, vi v21, vi 0] [vi v19] rfl (Nat.le_of_ble_eq_true rfl) ⟨(Nat.le_of_ble_eq_true rfl), (Nat.le_of_ble_eq_true rfl)⟩ rfl (Nat.le_of_ble_eq_true rfl) rfl (Nat.le_of_ble_eq_true rfl) (Nat.le_of_ble_eq_true rfl) ⟨_, _, rfl, Nat.le_of_ble_eq_true rfl, rfl⟩ ?_
    refine wp.mono H ?_
    rintro v w1 ⟨v23, rfl, rfl, H⟩
    show wp 12 117 (280, [some (vr 0), some (vi x1), some (vi x2), some (vi x3), some (vi x4), some (vi x5), some (vi 1), some (vi x7), some (vi x8), none, none, some (vi x11), none], [vi v23, vi v19], (Wd S L F22 G h)) _
    obtain ⟨g24, H⟩ := H
    obtain ⟨g25, H⟩ := H
    obtain ⟨g26, H⟩ := H
    refine pt117 (s' := (235, [some (vr 0), some (vi x1), some (vi x2), some (vi x3), some (vi x4), some (vi x5), some (vi 1), some (vi x7), some (vi x8), none, none, some (vi (x11 + 1)), none], [], (Wd S L F22 G h))) (by decide) [0, 0, 0, 0, 0, 0] rfl ⟨trivial, ⟨⟨g24, g25⟩, g26⟩⟩ ?_
    exact wp.weak (a := [some (vr 0), some (vi x1), some (vi x2), some (vi x3), some (vi x4), some (vi x5), some (vi 1), some (vi x7), some (vi x8), none, none, some (vi (x11 + 1)), none]) ⟨rfl, rfl, rfl, rfl, rfl, rfl, rfl, rfl, rfl, rfl, trivial⟩ H
set_option maxRecDepth 100000 in
set_option maxHeartbeats 4000000 in
theorem T117_361 {S L : Nat} {F G : Nat → Nat → Int} {h : Nat → Nat → Option Nat} (hh : RfH h) {x1 : Int} {x2 : Int} {x3 : Int} {x4 : Int} {x5 : Int} {x7 : Int} {x8 : Int} {x9 : Int} {x10 : Int} {x11 : Int}  {Q : Option V2 → W2 → Prop}
    (H : (R32 x11 ∧
 R32 x2 ∧
 (if x2 ≤ x11 then
  C75_0 1 (Wd S L F G h) (fun v w1 => ∃ (v4 : Int) (F5 : Nat → Nat → Int), v = some (vi v4) ∧ w1 = (Wd S L F5 G h) ∧
   (R32 v4 ∧
   x2 = v4 ∧
   C75_0 2 (Wd S L F5 G h) (fun v w1 => ∃ (v8 : Int) (F9 : Nat → Nat → Int), v = some (vi v8) ∧ w1 = (Wd S L F9 G h) ∧
    (R32 x3 ∧
    R32 v8 ∧
    x3 = v8 ∧
    C75_0 3 (Wd S L F9 G h) (fun v w1 => ∃ (v13 : Int) (F14 : Nat → Nat → Int), v = some (vi v13) ∧ w1 = (Wd S L F14 G h) ∧
     (R32 x4 ∧
     R32 v13 ∧
     x4 = v13 ∧
     C75_0 4 (Wd S L F14 G h) (fun v w1 => ∃ (v18 : Int) (F19 : Nat → Nat → Int), v = some (vi v18) ∧ w1 = (Wd S L F19 G h) ∧
      (R32 x5 ∧
      R32 v18 ∧
      x5 = v18 ∧
      C75_0 5 (Wd S L F19 G h) (fun v w1 => ∃ (v23 : Int) (F24 : Nat → Nat → Int), v = some (vi v23) ∧ w1 = (Wd S L F24 G h) ∧
       (R32 x7 ∧
       R32 v23 ∧
       x7 = v23 ∧
       C75_0 6 (Wd S L F24 G h) (fun v w1 => ∃ (v28 : Int) (F29 : Nat → Nat → Int), v = some (vi v28) ∧ w1 = (Wd S L F29 G h) ∧
        (R32 x9 ∧
        R32 v28 ∧
        x9 = v28 ∧
        C75_0 7 (Wd S L F29 G h) (fun v w1 => ∃ (v33 : Int) (F34 : Nat → Nat → Int), v = some (vi v33) ∧ w1 = (Wd S L F34 G h) ∧
         (R32 x10 ∧
         R32 v33 ∧
         x10 = v33 ∧
         C74_0 x2 0 (Wd S L F34 G h) (fun v w1 => ∃ (v38 : Int) (F39 : Nat → Nat → Int), v = some (vi v38) ∧ w1 = (Wd S L F39 G h) ∧
          (R32 v38 ∧
          v38 = (-1) ∧
          C74_0 (-1) 0 (Wd S L F39 G h) (fun v w1 => ∃ (v42 : Int) (F43 : Nat → Nat → Int), v = some (vi v42) ∧ w1 = (Wd S L F43 G h) ∧
           (R32 v42 ∧
           v42 = (-1) ∧
           C74_0 0 2 (Wd S L F43 G h) (fun v w1 => ∃ (v46 : Int) (F47 : Nat → Nat → Int), v = some (vi v46) ∧ w1 = (Wd S L F47 G h) ∧
            (R32 v46 ∧
            v46 = (-1) ∧
            C73_0 x1 0 (Wd S L F47 G h) (fun v w1 => ∃ (v50 : Int) (F51 : Nat → Nat → Int), v = some (vi v50) ∧ w1 = (Wd S L F51 G h) ∧
             (R32 v50 ∧
             v50 = (-1) ∧
             C73_0 0 7 (Wd S L F51 G h) (fun v w1 => ∃ (v54 : Int) (F55 : Nat → Nat → Int), v = some (vi v54) ∧ w1 = (Wd S L F55 G h) ∧
              (R32 v54 ∧
              v54 = (-1) ∧
              C75_0 11 (Wd S L F55 G h) (fun v w1 => ∃ (v58 : Int) (F59 : Nat → Nat → Int), v = some (vi v58) ∧ w1 = (Wd S L F59 G h) ∧
               (R32 v58 ∧
               v58 = (-1) ∧
               Q (some (vi 1)) (Wd S L F59 G h)))))))))))))))))))))))))))
 else
  (if x11 ≤ 0 then
   (R32 x9 ∧
   (if 1 ≤ x9 then
    C117_361 x1 x2 x3 x4 x5 (x7 + 1) 1 x9 x10 (x11 + 1) (Wd S L F G h) Q
   else
    C117_361 x1 x2 x3 x4 x5 (x7 + 1) 1 1 ((x11 - 1) + 1) (x11 + 1) (Wd S L F G h) Q))
  else
   C74_0 x11 1 (Wd S L F G h) (fun v w1 => ∃ (v65 : Int) (F66 : Nat → Nat → Int), v = some (vi v65) ∧ w1 = (Wd S L F66 G h) ∧
    C74_0 (x11 - 1) 1 (Wd S L F66 G h) (fun v w1 => ∃ (v67 : Int) (F68 : Nat → Nat → Int), v = some (vi v67) ∧ w1 = (Wd S L F68 G h) ∧
     (R32 v65 ∧
     R32 v67 ∧
     (if v65 = v67 then
      (R32 (x8 + 1) ∧
      R32 x9 ∧
      (if (x8 + 1) ≤ x9 then
       C117_361 x1 x2 x3 x4 x5 (x7 + 0) (x8 + 1) x9 x10 (x11 + 1) (Wd S L F68 G h) Q
      else
       C117_361 x1 x2 x3 x4 x5 (x7 + 0) (x8 + 1) (x8 + 1) ((x11 - (x8 + 1)) + 1) (x11 + 1) (Wd S L F68 G h) Q))
     else
      (R32 x9 ∧
      (if 1 ≤ x9 then
       C117_361 x1 x2 x3 x4 x5 (x7 + 1) 1 x9 x10 (x11 + 1) (Wd S L F68 G h) Q
      else
       C117_361 x1 x2 x3 x4 x5 (x7 + 1) 1 1 ((x11 - 1) + 1) (x11 + 1) (Wd S L F68 G h) Q)))))))))) : C117_361 x1 x2 x3 x4 x5 x7 x8 x9 x10 x11 (Wd S L F G h) Q := by
  obtain ⟨g1, H⟩ := H
  obtain ⟨g2, H⟩ := H
  refine pt117 (s' := (364, [some (vr 0), some (vi x1), some (vi x2), some (vi x3), some (vi x4), some (vi x5), some (vi 1), some (vi x7), some (vi x8), some (vi x9), some (vi x10), some (vi x11), none], [vi x2, vi x11], (Wd S L F G h))) (by decide) [0, 0] rfl trivial ?_
  by_cases c3 : x2 ≤ x11
  · rw [if_pos c3] at H
    refine pt117 (s' := (484, [some (vr 0), some (vi x1), some (vi x2), some (vi x3), some (vi x4), some (vi x5), some (vi 1), some (vi x7), some (vi x8), some (vi x9), some (vi x10), some (vi x11), none], [vi 1, vr 0, vi x2], (Wd S L F G h))) (by decide) [1, 0, 0, 0, 0, 0] rfl ⟨⟨trivial, ⟨⟨g1, g2⟩, c3⟩⟩, ⟨(by decide : R32 1), (by decide : ¬ (1 : Int) = (0 : Int))⟩⟩ ?_
    refine wp.cl am_m117 rfl am_m75 11 [vr 0, vi 1] [vi x2] rfl (Nat.le_of_ble_eq_true rfl) ⟨(Nat.le_of_ble_eq_true rfl), (Nat.le_of_ble_eq_true rfl)⟩ rfl (Nat.le_of_ble_eq_true rfl) rfl (Nat.le_of_ble_eq_true rfl) (Nat.le_of_ble_eq_true rfl) ⟨_, _, rfl, Nat.le_of_ble_eq_true rfl, rfl⟩ ?_
    refine wp.mono H ?_
    rintro v w1 ⟨v4, F5, rfl, rfl, H⟩
    show wp 12 117 (487, [some (vr 0), some (vi x1), some (vi x2), some (vi x3), some (vi x4), some (vi x5), some (vi 1), some (vi x7), some (vi x8), some (vi x9), some (vi x10), some (vi x11), none], [vi v4, vi x2], (Wd S L F5 G h)) _
    obtain ⟨g6, H⟩ := H
    obtain ⟨g7, H⟩ := H
    refine pt117 (s' := (493, [some (vr 0), some (vi x1), some (vi x2), some (vi x3), some (vi x4), some (vi x5), some (vi 1), some (vi x7), some (vi x8), some (vi x9), some (vi x10), some (vi x11), none], [vi 2, vr 0, vi x3], (Wd S L F5 G h))) (by decide) [0, 0, 0, 0] rfl ⟨trivial, ⟨⟨g2, g6⟩, g7⟩⟩ ?_
    refine wp.cl am_m117 rfl am_m75 11 [vr 0, vi 2] [vi x3] rfl (Nat.le_of_ble_eq_true rfl) ⟨(Nat.le_of_ble_eq_true rfl), (Nat.le_of_ble_eq_true rfl)⟩ rfl (Nat.le_of_ble_eq_true rfl) rfl (Nat.le_of_ble_eq_true rfl) (Nat.le_of_ble_eq_true rfl) ⟨_, _, rfl, Nat.le_of_ble_eq_true rfl, rfl⟩ ?_
    refine wp.mono H ?_
    rintro v w1 ⟨v8, F9, rfl, rfl, H⟩
    show wp 12 117 (496, [some (vr 0), some (vi x1), some (vi x2), some (vi x3), some (vi x4), some (vi x5), some (vi 1), some (vi x7), some (vi x8), some (vi x9), some (vi x10), some (vi x11), none], [vi v8, vi x3], (Wd S L F9 G h)) _
    obtain ⟨g10, H⟩ := H
    obtain ⟨g11, H⟩ := H
    obtain ⟨g12, H⟩ := H
    refine pt117 (s' := (503, [some (vr 0), some (vi x1), some (vi x2), some (vi x3), some (vi x4), some (vi x5), some (vi 1), some (vi x7), some (vi x8), some (vi x9), some (vi x10), some (vi x11), none], [vi 3, vr 0, vi x4], (Wd S L F9 G h))) (by decide) [0, 0, 0, 0] rfl ⟨trivial, ⟨⟨g10, g11⟩, g12⟩⟩ ?_
    refine wp.cl am_m117 rfl am_m75 11 [vr 0, vi 3] [vi x4] rfl (Nat.le_of_ble_eq_true rfl) ⟨(Nat.le_of_ble_eq_true rfl), (Nat.le_of_ble_eq_true rfl)⟩ rfl (Nat.le_of_ble_eq_true rfl) rfl (Nat.le_of_ble_eq_true rfl) (Nat.le_of_ble_eq_true rfl) ⟨_, _, rfl, Nat.le_of_ble_eq_true rfl, rfl⟩ ?_
    refine wp.mono H ?_
    rintro v w1 ⟨v13, F14, rfl, rfl, H⟩
    show wp 12 117 (506, [some (vr 0), some (vi x1), some (vi x2), some (vi x3), some (vi x4), some (vi x5), some (vi 1), some (vi x7), some (vi x8), some (vi x9), some (vi x10), some (vi x11), none], [vi v13, vi x4], (Wd S L F14 G h)) _
    obtain ⟨g15, H⟩ := H
    obtain ⟨g16, H⟩ := H
    obtain ⟨g17, H⟩ := H
    refine pt117 (s' := (513, [some (vr 0), some (vi x1), some (vi x2), some (vi x3), some (vi x4), some (vi x5), some (vi 1), some (vi x7), some (vi x8), some (vi x9), some (vi x10), some (vi x11), none], [vi 4, vr 0, vi x5], (Wd S L F14 G h))) (by decide) [0, 0, 0, 0] rfl ⟨trivial, ⟨⟨g15, g16⟩, g17⟩⟩ ?_
    refine wp.cl am_m117 rfl am_m75 11 [vr 0, vi 4] [vi x5] rfl (Nat.le_of_ble_eq_true rfl) ⟨(Nat.le_of_ble_eq_true rfl), (Nat.le_of_ble_eq_true rfl)⟩ rfl (Nat.le_of_ble_eq_true rfl) rfl (Nat.le_of_ble_eq_true rfl) (Nat.le_of_ble_eq_true rfl) ⟨_, _, rfl, Nat.le_of_ble_eq_true rfl, rfl⟩ ?_
    refine wp.mono H ?_
    rintro v w1 ⟨v18, F19, rfl, rfl, H⟩
    show wp 12 117 (516, [some (vr 0), some (vi x1), some (vi x2), some (vi x3), some (vi x4), some (vi x5), some (vi 1), some (vi x7), some (vi x8), some (vi x9), some (vi x10), some (vi x11), none], [vi v18, vi x5], (Wd S L F19 G h)) _
    obtain ⟨g20, H⟩ := H
    obtain ⟨g21, H⟩ := H
    obtain ⟨g22, H⟩ := H
    refine pt117 (s' := (523, [some (vr 0), some (vi x1), some (vi x2), some (vi x3), some (vi x4), some (vi x5), some (vi 1), some (vi x7), some (vi x8), some (vi x9), some (vi x10), some (vi x11), none], [vi 5, vr 0, vi x7], (Wd S L F19 G h))) (by decide) [0, 0, 0, 0] rfl ⟨trivial, ⟨⟨g20, g21⟩, g22⟩⟩ ?_
    refine wp.cl am_m117 rfl am_m75 11 [vr 0, vi 5] [vi x7] rfl (Nat.le_of_ble_eq_true rfl) ⟨(Nat.le_of_ble_eq_true rfl), (Nat.le_of_ble_eq_true rfl)⟩ rfl (Nat.le_of_ble_eq_true rfl) rfl (Nat.le_of_ble_eq_true rfl) (Nat.le_of_ble_eq_true rfl) ⟨_, _, rfl, Nat.le_of_ble_eq_true rfl, rfl⟩ ?_
    refine wp.mono H ?_
    rintro v w1 ⟨v23, F24, rfl, rfl, H⟩
    show wp 12 117 (526, [some (vr 0), some (vi x1), some (vi x2), some (vi x3), some (vi x4), some (vi x5), some (vi 1), some (vi x7), some (vi x8), some (vi x9), some (vi x10), some (vi x11), none], [vi v23, vi x7], (Wd S L F24 G h)) _
    obtain ⟨g25, H⟩ := H
    obtain ⟨g26, H⟩ := H
    obtain ⟨g27, H⟩ := H
    refine pt117 (s' := (534, [some (vr 0), some (vi x1), some (vi x2), some (vi x3), some (vi x4), some (vi x5), some (vi 1), some (vi x7), some (vi x8), some (vi x9), some (vi x10), some (vi x11), none], [vi 6, vr 0, vi x9], (Wd S L F24 G h))) (by decide) [0, 0, 0, 0] rfl ⟨trivial, ⟨⟨g25, g26⟩, g27⟩⟩ ?_
    refine wp.cl am_m117 rfl am_m75 11 [vr 0, vi 6] [vi x9] rfl (Nat.le_of_ble_eq_true rfl) ⟨(Nat.le_of_ble_eq_true rfl), (Nat.le_of_ble_eq_true rfl)⟩ rfl (Nat.le_of_ble_eq_true rfl) rfl (Nat.le_of_ble_eq_true rfl) (Nat.le_of_ble_eq_true rfl) ⟨_, _, rfl, Nat.le_of_ble_eq_true rfl, rfl⟩ ?_
    refine wp.mono H ?_
    rintro v w1 ⟨v28, F29, rfl, rfl, H⟩
    show wp 12 117 (537, [some (vr 0), some (vi x1), some (vi x2), some (vi x3), some (vi x4), some (vi x5), some (vi 1), some (vi x7), some (vi x8), some (vi x9), some (vi x10), some (vi x11), none], [vi v28, vi x9], (Wd S L F29 G h)) _
    obtain ⟨g30, H⟩ := H
    obtain ⟨g31, H⟩ := H
    obtain ⟨g32, H⟩ := H
    refine pt117 (s' := (545, [some (vr 0), some (vi x1), some (vi x2), some (vi x3), some (vi x4), some (vi x5), some (vi 1), some (vi x7), some (vi x8), some (vi x9), some (vi x10), some (vi x11), none], [vi 7, vr 0, vi x10], (Wd S L F29 G h))) (by decide) [0, 0, 0, 0] rfl ⟨trivial, ⟨⟨g30, g31⟩, g32⟩⟩ ?_
    refine wp.cl am_m117 rfl am_m75 11 [vr 0, vi 7] [vi x10] rfl (Nat.le_of_ble_eq_true rfl) ⟨(Nat.le_of_ble_eq_true rfl), (Nat.le_of_ble_eq_true rfl)⟩ rfl (Nat.le_of_ble_eq_true rfl) rfl (Nat.le_of_ble_eq_true rfl) (Nat.le_of_ble_eq_true rfl) ⟨_, _, rfl, Nat.le_of_ble_eq_true rfl, rfl⟩ ?_
    refine wp.mono H ?_
    rintro v w1 ⟨v33, F34, rfl, rfl, H⟩
    show wp 12 117 (548, [some (vr 0), some (vi x1), some (vi x2), some (vi x3), some (vi x4), some (vi x5), some (vi 1), some (vi x7), some (vi x8), some (vi x9), some (vi x10), some (vi x11), none], [vi v33, vi x10], (Wd S L F34 G h)) _
    obtain ⟨g35, H⟩ := H
    obtain ⟨g36, H⟩ := H
    obtain ⟨g37, H⟩ := H
    refine pt117 (s' := (554, [some (vr 0), some (vi x1), some (vi x2), some (vi x3), some (vi x4), some (vi x5), some (vi 1), some (vi x7), some (vi x8), some (vi x9), some (vi x10), some (vi x11), none], [vi 0, vi x2, vr 0], (Wd S L F34 G h))) (by decide) [0, 0, 0, 0] rfl ⟨trivial, ⟨⟨g35, g36⟩, g37⟩⟩ ?_
    refine wp.cl am_m117 rfl am_m74 11 [vr 0, vi x2, vi 0] [] rfl (Nat.le_of_ble_eq_true rfl) ⟨(Nat.le_of_ble_eq_true rfl), (Nat.le_of_ble_eq_true rfl)⟩ rfl (Nat.le_of_ble_eq_true rfl) rfl (Nat.le_of_ble_eq_true rfl) (Nat.le_of_ble_eq_true rfl) ⟨_, _, rfl, Nat.le_of_ble_eq_true rfl, rfl⟩ ?_
    refine wp.mono H ?_
    rintro v w1 ⟨v38, F39, rfl, rfl, H⟩
    show wp 12 117 (557, [some (vr 0), some (vi x1), some (vi x2), some (vi x3), some (vi x4), some (vi x5), some (vi 1), some (vi x7), some (vi x8), some (vi x9), some (vi x10), some (vi x11), none], [vi v38], (Wd S L F39 G h)) _
    obtain ⟨g40, H⟩ := H
    obtain ⟨g41, H⟩ := H
    refine pt117 (s' := (564, [some (vr 0), some (vi x1), some (vi x2), some (vi x3), some (vi x4), some (vi x5), some (vi 1), some (vi x7), some (vi x8), some (vi x9), some (vi x10), some (vi x11), none], [vi 0, vi (-1), vr 0], (Wd S L F39 G h))) (by decide) [0, 0, 0, 0, 0] rfl ⟨trivial, ⟨⟨g40, (by decide : R32 (-1))⟩, g41⟩⟩ ?_
    refine wp.cl am_m117 rfl am_m74 11 [vr 0, vi (-1), vi 0] [] rfl (Nat.le_of_ble_eq_true rfl) ⟨(Nat.le_of_ble_eq_true rfl), (Nat.le_of_ble_eq_true rfl)⟩ rfl (Nat.le_of_ble_eq_true rfl) rfl (Nat.le_of_ble_eq_true rfl) (Nat.le_of_ble_eq_true rfl) ⟨_, _, rfl, Nat.le_of_ble_eq_true rfl, rfl⟩ ?_
    refine wp.mono H ?_
    rintro v w1 ⟨v42, F43, rfl, rfl, H⟩
    show wp 12 117 (567, [some (vr 0), some (vi x1), some (vi x2), some (vi x3), some (vi x4), some (vi x5), some (vi 1), some (vi x7), some (vi x8), some (vi x9), some (vi x10), some (vi x11), none], [vi v42], (Wd S L F43 G h)) _
    obtain ⟨g44, H⟩ := H
    obtain ⟨g45, H⟩ := H
    refine pt117 (s' := (574, [some (vr 0), some (vi x1), some (vi x2), some (vi x3), some (vi x4), some (vi x5), some (vi 1), some (vi x7), some (vi x8), some (vi x9), some (vi x10), some (vi x11), none], [vi 2, vi 0, vr 0], (Wd S L F43 G h))) (by decide) [0, 0, 0, 0, 0] rfl ⟨trivial, ⟨⟨g44, (by decide : R32 (-1))⟩, g45⟩⟩ ?_
    refine wp.cl am_m117 rfl am_m74 11 [vr 0, vi 0, vi 2] [] rfl (Nat.le_of_ble_eq_true rfl) ⟨(Nat.le_of_ble_eq_true rfl), (Nat.le_of_ble_eq_true rfl)⟩ rfl (Nat.le_of_ble_eq_true rfl) rfl (Nat.le_of_ble_eq_true rfl) (Nat.le_of_ble_eq_true rfl) ⟨_, _, rfl, Nat.le_of_ble_eq_true rfl, rfl⟩ ?_
    refine wp.mono H ?_
    rintro v w1 ⟨v46, F47, rfl, rfl, H⟩
    show wp 12 117 (577, [some (vr 0), some (vi x1), some (vi x2), some (vi x3), some (vi x4), some (vi x5), some (vi 1), some (vi x7), some (vi x8), some (vi x9), some (vi x10), some (vi x11), none], [vi v46], (Wd S L F47 G h)) _
    obtain ⟨g48, H⟩ := H
    obtain ⟨g49, H⟩ := H
    refine pt117 (s' := (584, [some (vr 0), some (vi x1), some (vi x2), some (vi x3), some (vi x4), some (vi x5), some (vi 1), some (vi x7), some (vi x8), some (vi x9), some (vi x10), some (vi x11), none], [vi 0, vi x1, vr 0], (Wd S L F47 G h))) (by decide) [0, 0, 0, 0, 0] rfl ⟨trivial, ⟨⟨g48, (by decide : R32 (-1))⟩, g49⟩⟩ ?_
    refine wp.cl am_m117 rfl am_m73 11 [vr 0, vi x1, vi 0] [] rfl (Nat.le_of_ble_eq_true rfl) ⟨(Nat.le_of_ble_eq_true rfl), (Nat.le_of_ble_eq_true rfl)⟩ rfl (Nat.le_of_ble_eq_true rfl) rfl (Nat.le_of_ble_eq_true rfl) (Nat.le_of_ble_eq_true rfl) ⟨_, _, rfl, Nat.le_of_ble_eq_true rfl, rfl⟩ ?_
    refine wp.mono H ?_
    rintro v w1 ⟨v50, F51, rfl, rfl, H⟩
    show wp 12 117 (587, [some (vr 0), some (vi x1), some (vi x2), some (vi x3), some (vi x4), some (vi x5), some (vi 1), some (vi x7), some (vi x8), some (vi x9), some (vi x10), some (vi x11), none], [vi v50], (Wd S L F51 G h)) _
    obtain ⟨g52, H⟩ := H
    obtain ⟨g53, H⟩ := H
    refine pt117 (s' := (595, [some (vr 0), some (vi x1), some (vi x2), some (vi x3), some (vi x4), some (vi x5), some (vi 1), some (vi x7), some (vi x8), some (vi x9), some (vi x10), some (vi x11), none], [vi 7, vi 0, vr 0], (Wd S L F51 G h))) (by decide) [0, 0, 0, 0, 0] rfl ⟨trivial, ⟨⟨g52, (by decide : R32 (-1))⟩, g53⟩⟩ ?_
    refine wp.cl am_m117 rfl am_m73 11 [vr 0, vi 0, vi 7] [] rfl (Nat.le_of_ble_eq_true rfl) ⟨(Nat.le_of_ble_eq_true rfl), (Nat.le_of_ble_eq_true rfl)⟩ rfl (Nat.le_of_ble_eq_true rfl) rfl (Nat.le_of_ble_eq_true rfl) (Nat.le_of_ble_eq_true rfl) ⟨_, _, rfl, Nat.le_of_ble_eq_true rfl, rfl⟩ ?_
    refine wp.mono H ?_
    rintro v w1 ⟨v54, F55, rfl, rfl, H⟩
    show wp 12 117 (598, [some (vr 0), some (vi x1), some (vi x2), some (vi x3), some (vi x4), some (vi x5), some (vi 1), some (vi x7), some (vi x8), some (vi x9), some (vi x10), some (vi x11), none], [vi v54], (Wd S L F55 G h)) _
    obtain ⟨g56, H⟩ := H
    obtain ⟨g57, H⟩ := H
    refine pt117 (s' := (605, [some (vr 0), some (vi x1), some (vi x2), some (vi x3), some (vi x4), some (vi x5), some (vi 1), some (vi x7), some (vi x8), some (vi x9), some (vi x10), some (vi x11), none], [vi 11, vr 0], (Wd S L F55 G h))) (by decide) [0, 0, 0, 0] rfl ⟨trivial, ⟨⟨g56, (by decide : R32 (-1))⟩, g57⟩⟩ ?_
    refine wp.cl am_m117 rfl am_m75 11 [vr 0, vi 11] [] rfl (Nat.le_of_ble_eq_true rfl) ⟨(Nat.le_of_ble_eq_true rfl), (Nat.le_of_ble_eq_true rfl)⟩ rfl (Nat.le_of_ble_eq_true rfl) rfl (Nat.le_of_ble_eq_true rfl) (Nat.le_of_ble_eq_true rfl) ⟨_, _, rfl, Nat.le_of_ble_eq_true rfl, rfl⟩ ?_
    refine wp.mono H ?_
    rintro v w1 ⟨v58, F59, rfl, rfl, H⟩
    show wp 12 117 (608, [some (vr 0), some (vi x1), some (vi x2), some (vi x3), some (vi x4), some (vi x5), some (vi 1), some (vi x7), some (vi x8), some (vi x9), some (vi x10), some (vi x11), none], [vi v58], (Wd S L F59 G h)) _
    obtain ⟨g60, H⟩ := H
    obtain ⟨g61, H⟩ := H
    refine pt117 (s' := (617, [some (vr 0), some (vi x1), some (vi x2), some (vi x3), some (vi x4), some (vi x5), some (vi 1), some (vi x7), some (vi x8), some (vi x9), some (vi x10), some (vi x11), none], [vi 1], (Wd S L F59 G h))) (by decide) [0, 0, 0, 0] rfl ⟨trivial, ⟨⟨g60, (by decide : R32 (-1))⟩, g61⟩⟩ ?_
    exact wp.fin (v := some (vi 1)) (by decide) am_m117 rfl ⟨_, rfl, Or.inr ⟨rfl, Or.inr rfl⟩, rfl⟩ H
  · rw [if_neg c3] at H
    refine pt117 (s' := (374, [some (vr 0), some (vi x1), some (vi x2), some (vi x3), some (vi x4), some (vi x5), some (vi 1), some (vi x7), some (vi x8), some (vi x9), some (vi x10), some (vi x11), none], [vi x11], (Wd S L F G h))) (by decide) [0, 0, 0, 0] rfl ⟨⟨trivial, ⟨⟨g1, g2⟩, c3⟩⟩, ⟨(by decide : R32 1), (by decide : ¬ (1 : Int) = (0 : Int))⟩⟩ ?_
    by_cases c62 : x11 ≤ 0
    · rw [if_pos c62] at H
      obtain ⟨g63, H⟩ := H
      refine pt117 (s' := (437, [some (vr 0), some (vi x1), some (vi x2), some (vi x3), some (vi x4), some (vi x5), some (vi 1), some (vi (x7 + 1)), some (vi 1), some (vi x9), some (vi x10), some (vi x11), some (vi 0)], [vi x9, vi 1], (Wd S L F G h))) (by decide) [1, 0, 0, 0, 0, 1, 0, 0, 0, 0, 1, 0, 0, 0, 0] rfl ⟨⟨⟨trivial, ⟨g1, c62⟩⟩, ⟨(by decide : R32 0), (by decide : (0 : Int) = (0 : Int))⟩⟩, ⟨(by decide : R32 0), (by decide : (0 : Int) = (0 : Int))⟩⟩ ?_
      by_cases c64 : 1 ≤ x9
      · rw [if_pos c64] at H
        refine pt117 (s' := (361, [some (vr 0), some (vi x1), some (vi x2), some (vi x3), some (vi x4), some (vi x5), some (vi 1), some (vi (x7 + 1)), some (vi 1), some (vi x9), some (vi x10), some (vi (x11 + 1)), some (vi 0)], [], (Wd S L F G h))) (by decide) [1, 0, 0, 0, 0, 1, 0, 0, 0, 0] rfl ⟨⟨trivial, ⟨⟨(by decide : R32 1), g63⟩, c64⟩⟩, ⟨⟨(by decide : R32 1), g63⟩, c64⟩⟩ ?_
        exact wp.weak (a := [some (vr 0), some (vi x1), some (vi x2), some (vi x3), some (vi x4), some (vi x5), some (vi 1), some (vi (x7 + 1)), some (vi 1), some (vi x9), some (vi x10), some (vi (x11 + 1)), none]) ⟨rfl, rfl, rfl, rfl, rfl, rfl, rfl, rfl, rfl, rfl, rfl, rfl, trivial⟩ H
      · rw [if_neg c64] at H
        refine pt117 (s' := (361, [some (vr 0), some (vi x1), some (vi x2), some (vi x3), some (vi x4), some (vi x5), some (vi 1), some (vi (x7 + 1)), some (vi 1), some (vi 1), some (vi ((x11 - 1) + 1)), some (vi (x11 + 1)), some (vi 0)], [], (Wd S L F G h))) (by decide) [0, 0, 0, 0, 0, 0, 0, 0, 0, 0, 0, 0, 0, 0, 0, 0] rfl ⟨⟨trivial, ⟨⟨(by decide : R32 1), g63⟩, c64⟩⟩, ⟨⟨(by decide : R32 1), g63⟩, c64⟩⟩ ?_
        exact wp.weak (a := [some (vr 0), some (vi x1), some (vi x2), some (vi x3), some (vi x4), some (vi x5), some (vi 1), some (vi (x7 + 1)), some (vi 1), some (vi 1), some (vi ((x11 - 1) + 1)), some (vi (x11 + 1)), none]) ⟨rfl, rfl, rfl, rfl, rfl, rfl, rfl, rfl, rfl, rfl, rfl, rfl, trivial⟩ H
    · rw [if_neg c62] at H
      refine pt117 (s' := (381, [some (vr 0), some (vi x1), some (vi x2), some (vi x3), some (vi x4), some (vi x5), some (vi 1), some (vi x7), some (vi x8), some (vi x9), some (vi x10), some (vi x11), none], [vi 1, vi x11, vr 0], (Wd S L F G h))) (by decide) [0, 0, 0, 0] rfl ⟨trivial, ⟨g1, c62⟩⟩ ?_
      refine wp.cl am_m117 rfl am_m74 11 [vr 0, vi x11, vi 1] [] rfl (Nat.le_of_ble_eq_true rfl) ⟨(Nat.le_of_ble_eq_true rfl), (Nat.le_of_ble_eq_true rfl)⟩ rfl (Nat.le_of_ble_eq_true rfl) rfl (Nat.le_of_ble_eq_true rfl) (Nat.le_of_ble_eq_true rfl) ⟨_, _, rfl, Nat.le_of_ble_eq_true rfl, rfl⟩ ?_
      refine wp.mono H ?_
      rintro v w1 ⟨v65, F66, rfl, rfl, H⟩
      show wp 12 117 (384, [some (vr 0), some (vi x1), some (vi x2), some (vi x3), some (vi x4), some (vi x5), some (vi 1), some (vi x7), some (vi x8), some (vi x9), some (vi x10), some (vi x11), none], [vi v65], (Wd S L F66 G h)) _
      refine pt117 (s' := (390, [some (vr 0), some (vi x1), some (vi x2), some (vi x3), some (vi x4), some (vi x5), some (vi 1), some (vi x7), some (vi x8), some (vi x9), some (vi x10), some (vi x11), none], [vi 1, vi (x11 - 1), vr 0, vi v65], (Wd S L F66 G h))) (by decide) [0, 0, 0, 0, 0] rfl trivial ?_
      refine wp.cl am_m117 rfl am_m74 11 [vr 0, vi (x11 - 1), vi 1] [vi v65] rfl (Nat.le_of_ble_eq_true rfl) ⟨(Nat.le_of_ble_eq_true rfl), (Nat.le_of_ble_eq_true rfl)⟩ rfl (Nat.le_of_ble_eq_true rfl) rfl (Nat.le_of_ble_eq_true rfl) (Nat.le_of_ble_eq_true rfl) ⟨_, _, rfl, Nat.le_of_ble_eq_true rfl, rfl⟩ ?_
      refine wp.mono H ?_
      rintro v w1 ⟨v67, F68, rfl, rfl, H⟩
      show wp 12 117 (393, [some (vr 0), some (vi x1), some (vi x2), some (vi x3), some (vi x4), some (vi x5), some (vi 1), some (vi x7), some (vi x8), some (vi x9), some (vi x10), some (vi x11), none], [vi v67, vi v65], (Wd S L F68 G h)) _
      obtain ⟨g69, H⟩ := H
      obtain ⟨g70, H⟩ := H
      by_cases c71 : v65 = v67
      · rw [if_pos c71] at H
        obtain ⟨g72, H⟩ := H
        obtain ⟨g73, H⟩ := H
        refine pt117 (s' := (437, [some (vr 0), some (vi x1), some (vi x2), some (vi x3), some (vi x4), some (vi x5), some (vi 1), some (vi (x7 + 0)), some (vi (x8 + 1)), some (vi x9), some (vi x10), some (vi x11), some (vi 1)], [vi x9, vi (x8 + 1)], (Wd S L F68 G h))) (by decide) [0, 0, 0, 0, 0, 0, 0, 0, 0, 0, 0, 0, 0, 0, 0, 0, 0, 0, 0, 0] rfl ⟨⟨⟨trivial, ⟨⟨g69, g70⟩, c71⟩⟩, ⟨(by decide : R32 1), (by decide : ¬ (1 : Int) = (0 : Int))⟩⟩, ⟨(by decide : R32 1), (by decide : ¬ (1 : Int) = (0 : Int))⟩⟩ ?_
        by_cases c74 : (x8 + 1) ≤ x9
        · rw [if_pos c74] at H
          refine pt117 (s' := (361, [some (vr 0), some (vi x1), some (vi x2), some (vi x3), some (vi x4), some (vi x5), some (vi 1), some (vi (x7 + 0)), some (vi (x8 + 1)), some (vi x9), some (vi x10), some (vi (x11 + 1)), some (vi 1)], [], (Wd S L F68 G h))) (by decide) [1, 0, 0, 0, 0, 1, 0, 0, 0, 0] rfl ⟨⟨trivial, ⟨⟨g72, g73⟩, c74⟩⟩, ⟨⟨g72, g73⟩, c74⟩⟩ ?_
          exact wp.weak (a := [some (vr 0), some (vi x1), some (vi x2), some (vi x3), some (vi x4), some (vi x5), some (vi 1), some (vi (x7 + 0)), some (vi (x8 + 1)), some (vi x9), some (vi x10), some (vi (x11 + 1)), none]) ⟨rfl, rfl, rfl, rfl, rfl, rfl, rfl, rfl, rfl, rfl, rfl, rfl, trivial⟩ H
        · rw [if_neg c74] at H
          refine pt117 (s' := (361, [some (vr 0), some (vi x1), some (vi x2), some (vi x3), some (vi x4), some (vi x5), some (vi 1), some (vi (x7 + 0)), some (vi (x8 + 1)), some (vi (x8 + 1)), some (vi ((x11 - (x8 + 1)) + 1)), some (vi (x11 + 1)), some (vi 1)], [], (Wd S L F68 G h))) (by decide) [0, 0, 0, 0, 0, 0, 0, 0, 0, 0, 0, 0, 0, 0, 0, 0] rfl ⟨⟨trivial, ⟨⟨g72, g73⟩, c74⟩⟩, ⟨⟨g72, g73⟩, c74⟩⟩ ?_
          exact wp.weak (a := [some (vr 0), some (vi x1), some (vi x2), some (vi x3), some (vi x4), some (vi x5), some (vi 1), some (vi (x7 + 0)), some (vi (x8 + 1)), some (vi (x8 + 1)), some (vi ((x11 - (x8 + 1)) + 1)), some (vi (x11 + 1)), none]) ⟨rfl, rfl, rfl, rfl, rfl, rfl, rfl, rfl, rfl, rfl, rfl, rfl, trivial⟩ H
      · rw [if_neg c71] at H
        obtain ⟨g75, H⟩ := H
        refine pt117 (s' := (437, [some (vr 0), some (vi x1), some (vi x2), some (vi x3), some (vi x4), some (vi x5), some (vi 1), some (vi (x7 + 1)), some (vi 1), some (vi x9), some (vi x10), some (vi x11), some (vi 0)], [vi x9, vi 1], (Wd S L F68 G h))) (by decide) [1, 0, 0, 0, 0, 1, 0, 0, 0, 0, 1, 0, 0, 0, 0] rfl ⟨⟨⟨trivial, ⟨⟨g69, g70⟩, c71⟩⟩, ⟨(by decide : R32 0), (by decide : (0 : Int) = (0 : Int))⟩⟩, ⟨(by decide : R32 0), (by decide : (0 : Int) = (0 : Int))⟩⟩ ?_
        by_cases c76 : 1 ≤ x9
        · rw [if_pos c76] at H
          refine pt117 (s' := (361, [some (vr 0), some (vi x1), some (vi x2), some (vi x3), some (vi x4), some (vi x5), some (vi 1), some (vi (x7 + 1)), some (vi 1), some (vi x9), some (vi x10), some (vi (x11 + 1)), some (vi 0)], [], (Wd S L F68 G h))) (by decide) [1, 0, 0, 0, 0, 1, 0, 0, 0, 0] rfl ⟨⟨trivial, ⟨⟨(by decide : R32 1), g75⟩, c76⟩⟩, ⟨⟨(by decide : R32 1), g75⟩, c76⟩⟩ ?_
          exact wp.weak (a := [some (vr 0), some (vi x1), some (vi x2), some (vi x3), some (vi x4), some (vi x5), some (vi 1), some (vi (x7 + 1)), some (vi 1), some (vi x9), some (vi x10), some (vi (x11 + 1)), none]) ⟨rfl, rfl, rfl, rfl, rfl, rfl, rfl, rfl, rfl, rfl, rfl, rfl, trivial⟩ H
        · rw [if_neg c76] at H
          refine pt117 (s' := (361, [some (vr 0), some (vi x1), some (vi x2), some (vi x3), some (vi x4), some (vi x5), some (vi 1), some (vi (x7 + 1)), some (vi 1), some (vi 1), some (vi ((x11 - 1) + 1)), some (vi (x11 + 1)), some (vi 0)], [], (Wd S L F68 G h))) (by decide) [0, 0, 0, 0, 0, 0, 0, 0, 0, 0, 0, 0, 0, 0, 0, 0] rfl ⟨⟨trivial, ⟨⟨(by decide : R32 1), g75⟩, c76⟩⟩, ⟨⟨(by decide : R32 1), g75⟩, c76⟩⟩ ?_
          exact wp.weak (a := [some (vr 0), some (vi x1), some (vi x2), some (vi x3), some (vi x4), some (vi x5), some (vi 1), some (vi (x7 + 1)), some (vi 1), some (vi 1), some (vi ((x11 - 1) + 1)), some (vi (x11 + 1)), none]) ⟨rfl, rfl, rfl, rfl, rfl, rfl, rfl, rfl, rfl, rfl, rfl, rfl, trivial⟩ H
set_option maxRecDepth 100000 in
set_option maxHeartbeats 4000000 in
theorem T118_0 {S L : Nat} {F G : Nat → Nat → Int} {h : Nat → Nat → Option Nat} (hh : RfH h) {a1 : Int}  {Q : Option V2 → W2 → Prop}
    (H : C75_0 0 (Wd S L F G h) (fun v w1 => ∃ (v1 : Int) (F2 : Nat → Nat → Int), v = some (vi v1) ∧ w1 = (Wd S L F2 G h) ∧
  C75_0 1 (Wd S L F2 G h) (fun v w1 => ∃ (v3 : Int) (F4 : Nat → Nat → Int), v = some (vi v3) ∧ w1 = (Wd S L F4 G h) ∧
   C75_0 8 (Wd S L F4 G h) (fun v w1 => ∃ (v5 : Int) (F6 : Nat → Nat → Int), v = some (vi v5) ∧ w1 = (Wd S L F6 G h) ∧
    C118_26 a1 v1 v3 v5 0 (Wd S L F6 G h) Q)))) : C118_0 a1 (Wd S L F G h) Q := by
  refine pt118 (s' := (2, [some (vr 0), some (vi a1), none, none, none, none, none, none, none, none, none, none, none, none, none, none, none, none, none, none, none, none, none, none, none, none, none, none, none, none], [vi 0, vr 0], (Wd S L F G h))) (by decide) [0, 0] rfl trivial ?_
  refine wp.cl am_m118 rfl am_m75 11 [vr 0, vi 0] [] rfl (Nat.le_of_ble_eq_true rfl) ⟨(Nat.le_of_ble_eq_true rfl), (Nat.le_of_ble_eq_true rfl)⟩ rfl (Nat.le_of_ble_eq_true rfl) rfl (Nat.le_of_ble_eq_true rfl) (Nat.le_of_ble_eq_true rfl) ⟨_, _, rfl, Nat.le_of_ble_eq_true rfl, rfl⟩ ?_
  refine wp.mono H ?_
  rintro v w1 ⟨v1, F2, rfl, rfl, H⟩
  show wp 12 118 (5, [some (vr 0), some (vi a1), none, none, none, none, none, none, none, none, none, none, none, none, none, none, none, none, none, none, none, none, none, none, none, none, none, none, none, none], [vi v1], (Wd S L F2 G h)) _
  refine pt118 (s' := (8, [some (vr 0), some (vi a1), some (vi v1), none, none, none, none, none, none, none, none, none, none, none, none, none, none, none, none, none, none, none, none, none, none, none, none, none, none, none], [vi 1, vr 0], (Wd S L F2 G h))) (by decide) [0, 0, 0] rfl trivial ?_
  refine wp.cl am_m118 rfl am_m75 11 [vr 0, vi 1] [] rfl (Nat.le_of_ble_eq_true rfl) ⟨(Nat.le_of_ble_eq_true rfl), (Nat.le_of_ble_eq_true rfl)⟩ rfl (Nat.le_of_ble_eq_true rfl) rfl (Nat.le_of_ble_eq_true rfl) (Nat.le_of_ble_eq_true rfl) ⟨_, _, rfl, Nat.le_of_ble_eq_true rfl, rfl⟩ ?_
  refine wp.mono H ?_
  rintro v w1 ⟨v3, F4, rfl, rfl, H⟩
  show wp 12 118 (11, [some (vr 0), some (vi a1), some (vi v1), none, none, none, none, none, none, none, none, none, none, none, none, none, none, none, none, none, none, none, none, none, none, none, none, none, none, none], [vi v3], (Wd S L F4 G h)) _
  refine pt118 (s' := (15, [some (vr 0), some (vi a1), some (vi v1), some (vi v3), none, none, none, none, none, none, none, none, none, none, none, none, none, none, none, none, none, none, none, none, none, none, none, none, none, none], [vi 8, vr 0], (Wd S L F4 G h))) (by decide) [0, 0, 0] rfl trivial ?_
  refine wp.cl am_m118 rfl am_m75 11 [vr 0, vi 8] [] rfl (Nat.le_of_ble_eq_true rfl) ⟨(Nat.le_of_ble_eq_true rfl), (Nat.le_of_ble_eq_true rfl)⟩ rfl (Nat.le_of_ble_eq_true rfl) rfl (Nat.le_of_ble_eq_true rfl) (Nat.le_of_ble_eq_true rfl) ⟨_, _, rfl, Nat.le_of_ble_eq_true rfl, rfl⟩ ?_
  refine wp.mono H ?_
  rintro v w1 ⟨v5, F6, rfl, rfl, H⟩
  show wp 12 118 (18, [some (vr 0), some (vi a1), some (vi v1), some (vi v3), none, none, none, none, none, none, none, none, none, none, none, none, none, none, none, none, none, none, none, none, none, none, none, none, none, none], [vi v5], (Wd S L F6 G h)) _
  refine pt118 (s' := (26, [some (vr 0), some (vi a1), some (vi v1), some (vi v3), some (vi v5), some (vi 1), some (vi 0), none, none, none, none, none, none, none, none, none, none, none, none, none, none, none, none, none, none, none, none, none, none, none], [], (Wd S L F6 G h))) (by decide) [0, 0, 0, 0, 0] rfl trivial ?_
  exact wp.weak (a := [some (vr 0), some (vi a1), some (vi v1), some (vi v3), some (vi v5), some (vi 1), some (vi 0), none, none, none, none, none, none, none, none, none, none, none, none, none, none, none, none, none, none, none, none, none, none, none]) ⟨rfl, rfl, rfl, rfl, rfl, rfl, rfl, trivial⟩ H
