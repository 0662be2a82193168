/-! the methods walked, by program (wip/p35/sym.py) -/
set_option maxRecDepth 100000 in
set_option maxHeartbeats 4000000 in
theorem T44_0 {S L : Nat} {F G : Nat → Nat → Int} {h : Nat → Nat → Option Nat} (hh : RfH h) {a1 : Int}  {Q : Option V2 → W2 → Prop}
    (H : C41_0 a1 (Wd S L F G h) (fun v w1 => ∃ (v1 : Int), v = some (vi v1) ∧ w1 = (Wd S L F G h) ∧
  C44_8 a1 v1 0 (Wd S L F G h) Q)) : C44_0 a1 (Wd S L F G h) Q := by
  refine pt44 (s' := (2, [some (vr 1), some (vi a1), none, none, none], [vi a1, vr 1], (Wd S L F G h))) (by decide) [0, 0] rfl trivial ?_
  refine wp.cl am_m44 rfl am_m41 7 [vr 1, vi a1] [] rfl (Nat.le_of_ble_eq_true rfl) ⟨(Nat.le_of_ble_eq_true rfl), (Nat.le_of_ble_eq_true rfl)⟩ rfl (Nat.le_of_ble_eq_true rfl) rfl (Nat.le_of_ble_eq_true rfl) (Nat.le_of_ble_eq_true rfl) ⟨_, _, rfl, Nat.le_of_ble_eq_true rfl, rfl⟩ ?_
  refine wp.mono H ?_
  rintro v w1 ⟨v1, rfl, rfl, H⟩
  show wp 8 44 (5, [some (vr 1), some (vi a1), none, none, none], [vi v1], (Wd S L F G h)) _
  refine pt44 (s' := (8, [some (vr 1), some (vi a1), some (vi v1), some (vi 0), none], [], (Wd S L F G h))) (by decide) [0, 0, 0] rfl trivial ?_
  exact wp.weak (a := [some (vr 1), some (vi a1), some (vi v1), some (vi 0), none]) ⟨rfl, rfl, rfl, rfl, trivial⟩ H
set_option maxRecDepth 100000 in
set_option maxHeartbeats 4000000 in
theorem T44_8 {S L : Nat} {F G : Nat → Nat → Int} {h : Nat → Nat → Option Nat} (hh : RfH h) {x1 : Int} {x2 : Int} {x3 : Int}  {Q : Option V2 → W2 → Prop}
    (H : (R32 x3 ∧
 R32 (F 1 13) ∧
 (if (F 1 13) ≤ x3 then
  Q (some (vi 1)) (Wd S L F G h)
 else
  ((0 ≤ x3 ∧ x3 < 8) ∧
  (0 ≤ x1 ∧ x1 < 8) ∧
  R32 (F 8 x3.toNat) ∧
  R32 (F 8 x1.toNat) ∧
  (if (F 8 x1.toNat) < (F 8 x3.toNat) then
   C41_0 x3 (Wd S L F G h) (fun v w1 => ∃ (v9 : Int), v = some (vi v9) ∧ w1 = (Wd S L F G h) ∧
    (R32 v9 ∧
    R32 x2 ∧
    (if v9 = x2 then
     Q (some (vi 0)) (Wd S L F G h)
    else
     C44_8 x1 x2 (x3 + 1) (Wd S L F G h) Q)))
  else
   (if (F 8 x3.toNat) = (F 8 x1.toNat) then
    (R32 x1 ∧
    (if x1 ≤ x3 then
     C44_8 x1 x2 (x3 + 1) (Wd S L F G h) Q
    else
     C41_0 x3 (Wd S L F G h) (fun v w1 => ∃ (v16 : Int), v = some (vi v16) ∧ w1 = (Wd S L F G h) ∧
      (R32 v16 ∧
      R32 x2 ∧
      (if v16 = x2 then
       Q (some (vi 0)) (Wd S L F G h)
      else
       C44_8 x1 x2 (x3 + 1) (Wd S L F G h) Q)))))
   else
    C44_8 x1 x2 (x3 + 1) (Wd S L F G h) Q)))))) : C44_8 x1 x2 x3 (Wd S L F G h) Q := by
  obtain ⟨g1, H⟩ := H
  obtain ⟨g2, H⟩ := H
  refine pt44 (s' := (13, [some (vr 1), some (vi x1), some (vi x2), some (vi x3), none], [vi (F 1 13), vi x3], (Wd S L F G h))) (by decide) [0, 0, 0] rfl ⟨trivial, ⟨Nat.le_of_ble_eq_true rfl, rfl⟩⟩ ?_
  by_cases c3 : (F 1 13) ≤ x3
  · rw [if_pos c3] at H
    refine pt44 (s' := (81, [some (vr 1), some (vi x1), some (vi x2), some (vi x3), none], [vi 1], (Wd S L F G h))) (by decide) [1, 0] rfl ⟨trivial, ⟨⟨g1, g2⟩, c3⟩⟩ ?_
    exact wp.fin (v := some (vi 1)) (by decide) am_m44 rfl ⟨_, rfl, Or.inr ⟨rfl, Or.inr rfl⟩, rfl⟩ H
  · rw [if_neg c3] at H
    obtain ⟨g4, H⟩ := H
    obtain ⟨g5, H⟩ := H
    obtain ⟨g6, H⟩ := H
    obtain ⟨g7, H⟩ := H
    refine pt44 (s' := (28, [some (vr 1), some (vi x1), some (vi x2), some (vi x3), none], [vi (F 8 x1.toNat), vi (F 8 x3.toNat)], (Wd S L F G h))) (by decide) [0, 0, 8, 0, 0, 0, 8, 0, 0] rfl ⟨⟨⟨⟨⟨trivial, ⟨⟨g1, g2⟩, c3⟩⟩, ⟨Nat.le_of_ble_eq_true rfl, rfl, hh _ _ _ rfl⟩⟩, (ix ⟨Nat.le_of_ble_eq_true rfl, rfl⟩ g4)⟩, ⟨Nat.le_of_ble_eq_true rfl, rfl, hh _ _ _ rfl⟩⟩, (ix ⟨Nat.le_of_ble_eq_true rfl, rfl⟩ g5)⟩ ?_
    by_cases c8 : (F 8 x1.toNat) < (F 8 x3.toNat)
    · rw [if_pos c8] at H
      refine pt44 (s' := (65, [some (vr 1), some (vi x1), some (vi x2), some (vi x3), some (vi 1)], [vi x3, vr 1], (Wd S L F G h))) (by decide) [1, 0, 0, 0, 0, 0, 0, 0] rfl ⟨⟨trivial, ⟨⟨g6, g7⟩, c8⟩⟩, ⟨(by decide : R32 1), (by decide : ¬ (1 : Int) = (0 : Int))⟩⟩ ?_
      refine wp.cl am_m44 rfl am_m41 7 [vr 1, vi x3] [] rfl (Nat.le_of_ble_eq_true rfl) ⟨(Nat.le_of_ble_eq_true rfl), (Nat.le_of_ble_eq_true rfl)⟩ rfl (Nat.le_of_ble_eq_true rfl) rfl (Nat.le_of_ble_eq_true rfl) (Nat.le_of_ble_eq_true rfl) ⟨_, _, rfl, Nat.le_of_ble_eq_true rfl, rfl⟩ ?_
      refine wp.mono H ?_
      rintro v w1 ⟨v9, rfl, rfl, H⟩
      show wp 8 44 (68, [some (vr 1), some (vi x1), some (vi x2), some (vi x3), some (vi 1)], [vi v9], (Wd S L F G h)) _
      obtain ⟨g10, H⟩ := H
      obtain ⟨g11, H⟩ := H
      refine pt44 (s' := (69, [some (vr 1), some (vi x1), some (vi x2), some (vi x3), some (vi 1)], [vi x2, vi v9], (Wd S L F G h))) (by decide) [0] rfl trivial ?_
      by_cases c12 : v9 = x2
      · rw [if_pos c12] at H
        refine pt44 (s' := (73, [some (vr 1), some (vi x1), some (vi x2), some (vi x3), some (vi 1)], [vi 0], (Wd S L F G h))) (by decide) [0, 0] rfl ⟨trivial, ⟨⟨g10, g11⟩, c12⟩⟩ ?_
        exact wp.fin (v := some (vi 0)) (by decide) am_m44 rfl ⟨_, rfl, Or.inr ⟨rfl, Or.inl rfl⟩, rfl⟩ H
      · rw [if_neg c12] at H
        refine pt44 (s' := (8, [some (vr 1), some (vi x1), some (vi x2), some (vi (x3 + 1)), some (vi 1)], [], (Wd S L F G h))) (by decide) [1, 0, 0] rfl ⟨trivial, ⟨⟨g10, g11⟩, c12⟩⟩ ?_
        exact wp.weak (a := [some (vr 1), some (vi x1), some (vi x2), some (vi (x3 + 1)), none]) ⟨rfl, rfl, rfl, rfl, trivial⟩ H
    · rw [if_neg c8] at H
      refine pt44 (s' := (43, [some (vr 1), some (vi x1), some (vi x2), some (vi x3), none], [vi (F 8 x1.toNat), vi (F 8 x3.toNat)], (Wd S L F G h))) (by decide) [0, 0, 8, 0, 0, 0, 8, 0, 0] rfl ⟨⟨⟨⟨⟨trivial, ⟨⟨g6, g7⟩, c8⟩⟩, ⟨Nat.le_of_ble_eq_true rfl, rfl, hh _ _ _ rfl⟩⟩, (ix ⟨Nat.le_of_ble_eq_true rfl, rfl⟩ g4)⟩, ⟨Nat.le_of_ble_eq_true rfl, rfl, hh _ _ _ rfl⟩⟩, (ix ⟨Nat.le_of_ble_eq_true rfl, rfl⟩ g5)⟩ ?_
      by_cases c13 : (F 8 x3.toNat) = (F 8 x1.toNat)
      · rw [if_pos c13] at H
        obtain ⟨g14, H⟩ := H
        refine pt44 (s' := (48, [some (vr 1), some (vi x1), some (vi x2), some (vi x3), none], [vi x1, vi x3], (Wd S L F G h))) (by decide) [0, 0, 0] rfl ⟨trivial, ⟨⟨g6, g7⟩, c13⟩⟩ ?_
        by_cases c15 : x1 ≤ x3
        · rw [if_pos c15] at H
          refine pt44 (s' := (8, [some (vr 1), some (vi x1), some (vi x2), some (vi (x3 + 1)), some (vi 0)], [], (Wd S L F G h))) (by decide) [1, 0, 0, 0, 1, 0, 0] rfl ⟨⟨trivial, ⟨⟨g1, g14⟩, c15⟩⟩, ⟨(by decide : R32 0), (by decide : (0 : Int) = (0 : Int))⟩⟩ ?_
          exact wp.weak (a := [some (vr 1), some (vi x1), some (vi x2), some (vi (x3 + 1)), none]) ⟨rfl, rfl, rfl, rfl, trivial⟩ H
        · rw [if_neg c15] at H
          refine pt44 (s' := (65, [some (vr 1), some (vi x1), some (vi x2), some (vi x3), some (vi 1)], [vi x3, vr 1], (Wd S L F G h))) (by decide) [0, 0, 0, 0, 0, 0, 0, 0] rfl ⟨⟨trivial, ⟨⟨g1, g14⟩, c15⟩⟩, ⟨(by decide : R32 1), (by decide : ¬ (1 : Int) = (0 : Int))⟩⟩ ?_
          refine wp.cl am_m44 rfl am_m41 7 [vr 1, vi x3] [] rfl (Nat.le_of_ble_eq_true rfl) ⟨(Nat.le_of_ble_eq_true rfl), (Nat.le_of_ble_eq_true rfl)⟩ rfl (Nat.le_of_ble_eq_true rfl) rfl (Nat.le_of_ble_eq_true rfl) (Nat.le_of_ble_eq_true rfl) ⟨_, _, rfl, Nat.le_of_ble_eq_true rfl, rfl⟩ ?_
          refine wp.mono H ?_
          rintro v w1 ⟨v16, rfl, rfl, H⟩
          show wp 8 44 (68, [some (vr 1), some (vi x1), some (vi x2), some (vi x3), some (vi 1)], [vi v16], (Wd S L F G h)) _
          obtain ⟨g17, H⟩ := H
          obtain ⟨g18, H⟩ := H
          refine pt44 (s' := (69, [some (vr 1), some (vi x1), some (vi x2), some (vi x3), some (vi 1)], [vi x2, vi v16], (Wd S L F G h))) (by decide) [0] rfl trivial ?_
          by_cases c19 : v16 = x2
          · rw [if_pos c19] at H
            refine pt44 (s' := (73, [some (vr 1), some (vi x1), some (vi x2), some (vi x3), some (vi 1)], [vi 0], (Wd S L F G h))) (by decide) [0, 0] rfl ⟨trivial, ⟨⟨g17, g18⟩, c19⟩⟩ ?_
            exact wp.fin (v := some (vi 0)) (by decide) am_m44 rfl ⟨_, rfl, Or.inr ⟨rfl, Or.inl rfl⟩, rfl⟩ H
          · rw [if_neg c19] at H
            refine pt44 (s' := (8, [some (vr 1), some (vi x1), some (vi x2), some (vi (x3 + 1)), some (vi 1)], [], (Wd S L F G h))) (by decide) [1, 0, 0] rfl ⟨trivial, ⟨⟨g17, g18⟩, c19⟩⟩ ?_
            exact wp.weak (a := [some (vr 1), some (vi x1), some (vi x2), some (vi (x3 + 1)), none]) ⟨rfl, rfl, rfl, rfl, trivial⟩ H
      · rw [if_neg c13] at H
        refine pt44 (s' := (8, [some (vr 1), some (vi x1), some (vi x2), some (vi (x3 + 1)), some (vi 0)], [], (Wd S L F G h))) (by decide) [1, 0, 0, 0, 1, 0, 0] rfl ⟨⟨trivial, ⟨⟨g6, g7⟩, c13⟩⟩, ⟨(by decide : R32 0), (by decide : (0 : Int) = (0 : Int))⟩⟩ ?_
        exact wp.weak (a := [some (vr 1), some (vi x1), some (vi x2), some (vi (x3 + 1)), none]) ⟨rfl, rfl, rfl, rfl, trivial⟩ H
set_option maxRecDepth 100000 in
set_option maxHeartbeats 4000000 in
theorem T45_0 {S L : Nat} {F G : Nat → Nat → Int} {h : Nat → Nat → Option Nat} (hh : RfH h)   {Q : Option V2 → W2 → Prop}
    (H : C45_4 0 0 (Wd S L F G h) Q) : C45_0  (Wd S L F G h) Q := by
  refine pt45 (s' := (4, [some (vr 1), some (vi 0), some (vi 0)], [], (Wd S L F G h))) (by decide) [0, 0, 0, 0] rfl trivial ?_
  exact wp.weak (a := [some (vr 1), some (vi 0), some (vi 0)]) ⟨rfl, rfl, rfl, trivial⟩ H
set_option maxRecDepth 100000 in
set_option maxHeartbeats 4000000 in
theorem T45_4 {S L : Nat} {F G : Nat → Nat → Int} {h : Nat → Nat → Option Nat} (hh : RfH h) {x1 : Int} {x2 : Int}  {Q : Option V2 → W2 → Prop}
    (H : (R32 x2 ∧
 R32 (F 1 13) ∧
 (if (F 1 13) ≤ x2 then
  Q (some (vi x1)) (Wd S L F G h)
 else
  ((0 ≤ x2 ∧ x2 < 8) ∧
  C45_4 (x1 + (F 8 x2.toNat)) (x2 + 1) (Wd S L F G h) Q)))) : C45_4 x1 x2 (Wd S L F G h) Q := by
  obtain ⟨g1, H⟩ := H
  obtain ⟨g2, H⟩ := H
  refine pt45 (s' := (9, [some (vr 1), some (vi x1), some (vi x2)], [vi (F 1 13), vi x2], (Wd S L F G h))) (by decide) [0, 0, 0] rfl ⟨trivial, ⟨Nat.le_of_ble_eq_true rfl, rfl⟩⟩ ?_
  by_cases c3 : (F 1 13) ≤ x2
  · rw [if_pos c3] at H
    refine pt45 (s' := (28, [some (vr 1), some (vi x1), some (vi x2)], [vi x1], (Wd S L F G h))) (by decide) [1, 0] rfl ⟨trivial, ⟨⟨g1, g2⟩, c3⟩⟩ ?_
    exact wp.fin (v := some (vi x1)) (by decide) am_m45 rfl ⟨_, rfl, Or.inl rfl, rfl⟩ H
  · rw [if_neg c3] at H
    obtain ⟨g4, H⟩ := H
    refine pt45 (s' := (4, [some (vr 1), some (vi (x1 + (F 8 x2.toNat))), some (vi (x2 + 1))], [], (Wd S L F G h))) (by decide) [0, 0, 0, 8, 0, 0, 0, 0, 0, 0] rfl ⟨⟨⟨trivial, ⟨⟨g1, g2⟩, c3⟩⟩, ⟨Nat.le_of_ble_eq_true rfl, rfl, hh _ _ _ rfl⟩⟩, (ix ⟨Nat.le_of_ble_eq_true rfl, rfl⟩ g4)⟩ ?_
    exact wp.weak (a := [some (vr 1), some (vi (x1 + (F 8 x2.toNat))), some (vi (x2 + 1))]) ⟨rfl, rfl, rfl, trivial⟩ H
set_option maxRecDepth 100000 in
set_option maxHeartbeats 4000000 in
theorem T46_0 {S L : Nat} {F G : Nat → Nat → Int} {h : Nat → Nat → Option Nat} (hh : RfH h)   {Q : Option V2 → W2 → Prop}
    (H : (R32 (F 1 14) ∧
 ((0 : Int) ≤ ((Int64.ofInt (((F 1 14) * 1103515245) + 12345) &&& Int64.ofInt 2147483647).toInt) ∧ ((Int64.ofInt (((F 1 14) * 1103515245) + 12345) &&& Int64.ofInt 2147483647).toInt) ≤ 2147483647) ∧
 ((0 : Int) ≤ (((Int64.ofInt (((F 1 14) * 1103515245) + 12345) &&& Int64.ofInt 2147483647).toInt) / 65536) ∧ (((Int64.ofInt (((F 1 14) * 1103515245) + 12345) &&& Int64.ofInt 2147483647).toInt) / 65536) ≤ 2147483647) ∧
 ((0 : Int) ≤ ((((Int64.ofInt (((F 1 14) * 1103515245) + 12345) &&& Int64.ofInt 2147483647).toInt) / 65536) / 8) ∧ ((((Int64.ofInt (((F 1 14) * 1103515245) + 12345) &&& Int64.ofInt 2147483647).toInt) / 65536) / 8) ≤ 2147483647) ∧
 ((0 : Int) ≤ ((((Int64.ofInt (((F 1 14) * 1103515245) + 12345) &&& Int64.ofInt 2147483647).toInt) / 65536) / 128) ∧ ((((Int64.ofInt (((F 1 14) * 1103515245) + 12345) &&& Int64.ofInt 2147483647).toInt) / 65536) / 128) ≤ 2147483647) ∧
 R32 ((((Int64.ofInt (((F 1 14) * 1103515245) + 12345) &&& Int64.ofInt 2147483647).toInt) / 65536) % 8) ∧
 (if ((((Int64.ofInt (((F 1 14) * 1103515245) + 12345) &&& Int64.ofInt 2147483647).toInt) / 65536) % 8) = 0 then
  C32_0 (((((Int64.ofInt (((F 1 14) * 1103515245) + 12345) &&& Int64.ofInt 2147483647).toInt) / 65536) / 8) % 12) ((((((Int64.ofInt (((F 1 14) * 1103515245) + 12345) &&& Int64.ofInt 2147483647).toInt) / 65536) / 128) % 12) + 1) (Wd S L (am_up F 1 14 ((Int64.ofInt (((F 1 14) * 1103515245) + 12345) &&& Int64.ofInt 2147483647).toInt)) G h) (fun v w1 => ∃ (v8 : Int) (F9 : Nat → Nat → Int), v = some (vi v8) ∧ w1 = (Wd S L F9 G h) ∧
   Q (none) (Wd S L F9 G h))
 else
 (if ((((Int64.ofInt (((F 1 14) * 1103515245) + 12345) &&& Int64.ofInt 2147483647).toInt) / 65536) % 8) = 1 then
  C32_0 (((((Int64.ofInt (((F 1 14) * 1103515245) + 12345) &&& Int64.ofInt 2147483647).toInt) / 65536) / 8) % 12) ((((((Int64.ofInt (((F 1 14) * 1103515245) + 12345) &&& Int64.ofInt 2147483647).toInt) / 65536) / 128) % 12) + 1) (Wd S L (am_up F 1 14 ((Int64.ofInt (((F 1 14) * 1103515245) + 12345) &&& Int64.ofInt 2147483647).toInt)) G h) (fun v w1 => ∃ (v11 : Int) (F12 : Nat → Nat → Int), v = some (vi v11) ∧ w1 = (Wd S L F12 G h) ∧
   Q (none) (Wd S L F12 G h))
 else
 (if ((((Int64.ofInt (((F 1 14) * 1103515245) + 12345) &&& Int64.ofInt 2147483647).toInt) / 65536) % 8) = 2 then
  C32_0 (((((Int64.ofInt (((F 1 14) * 1103515245) + 12345) &&& Int64.ofInt 2147483647).toInt) / 65536) / 8) % 12) ((((((Int64.ofInt (((F 1 14) * 1103515245) + 12345) &&& Int64.ofInt 2147483647).toInt) / 65536) / 128) % 12) + 1) (Wd S L (am_up F 1 14 ((Int64.ofInt (((F 1 14) * 1103515245) + 12345) &&& Int64.ofInt 2147483647).toInt)) G h) (fun v w1 => ∃ (v14 : Int) (F15 : Nat → Nat → Int), v = some (vi v14) ∧ w1 = (Wd S L F15 G h) ∧
   Q (none) (Wd S L F15 G h))
 else
 (if ((((Int64.ofInt (((F 1 14) * 1103515245) + 12345) &&& Int64.ofInt 2147483647).toInt) / 65536) % 8) = 3 then
  (((0 : Int) ≤ (((((Int64.ofInt (((F 1 14) * 1103515245) + 12345) &&& Int64.ofInt 2147483647).toInt) / 65536) / 128) % 12) ∧ (((((Int64.ofInt (((F 1 14) * 1103515245) + 12345) &&& Int64.ofInt 2147483647).toInt) / 65536) / 128) % 12) ≤ 2147483647) ∧
  ((0 : Int) ≤ ((((Int64.ofInt (((F 1 14) * 1103515245) + 12345) &&& Int64.ofInt 2147483647).toInt) / 65536) / 2048) ∧ ((((Int64.ofInt (((F 1 14) * 1103515245) + 12345) &&& Int64.ofInt 2147483647).toInt) / 65536) / 2048) ≤ 2147483647) ∧
  C31_0 (((((Int64.ofInt (((F 1 14) * 1103515245) + 12345) &&& Int64.ofInt 2147483647).toInt) / 65536) / 8) % 12) ((((((Int64.ofInt (((F 1 14) * 1103515245) + 12345) &&& Int64.ofInt 2147483647).toInt) / 65536) / 128) % 12) % 8) (((((Int64.ofInt (((F 1 14) * 1103515245) + 12345) &&& Int64.ofInt 2147483647).toInt) / 65536) / 2048) % 6) (Wd S L (am_up F 1 14 ((Int64.ofInt (((F 1 14) * 1103515245) + 12345) &&& Int64.ofInt 2147483647).toInt)) G h) (fun v w1 => ∃ (v19 : Int) (F20 : Nat → Nat → Int), v = some (vi v19) ∧ w1 = (Wd S L F20 G h) ∧
   Q (none) (Wd S L F20 G h)))
 else
 (if ((((Int64.ofInt (((F 1 14) * 1103515245) + 12345) &&& Int64.ofInt 2147483647).toInt) / 65536) % 8) = 4 then
  (((0 : Int) ≤ (((((Int64.ofInt (((F 1 14) * 1103515245) + 12345) &&& Int64.ofInt 2147483647).toInt) / 65536) / 8) % 12) ∧ (((((Int64.ofInt (((F 1 14) * 1103515245) + 12345) &&& Int64.ofInt 2147483647).toInt) / 65536) / 8) % 12) ≤ 2147483647) ∧
  ((0 : Int) ≤ ((((Int64.ofInt (((F 1 14) * 1103515245) + 12345) &&& Int64.ofInt 2147483647).toInt) / 65536) / 2048) ∧ ((((Int64.ofInt (((F 1 14) * 1103515245) + 12345) &&& Int64.ofInt 2147483647).toInt) / 65536) / 2048) ≤ 2147483647) ∧
  C30_0 ((((((Int64.ofInt (((F 1 14) * 1103515245) + 12345) &&& Int64.ofInt 2147483647).toInt) / 65536) / 8) % 12) % 8) (((((Int64.ofInt (((F 1 14) * 1103515245) + 12345) &&& Int64.ofInt 2147483647).toInt) / 65536) / 128) % 12) (((((Int64.ofInt (((F 1 14) * 1103515245) + 12345) &&& Int64.ofInt 2147483647).toInt) / 65536) / 2048) % 13) (Wd S L (am_up F 1 14 ((Int64.ofInt (((F 1 14) * 1103515245) + 12345) &&& Int64.ofInt 2147483647).toInt)) G h) (fun v w1 => ∃ (v24 : Int) (F25 : Nat → Nat → Int), v = some (vi v24) ∧ w1 = (Wd S L F25 G h) ∧
   Q (none) (Wd S L F25 G h)))
 else
 (if ((((Int64.ofInt (((F 1 14) * 1103515245) + 12345) &&& Int64.ofInt 2147483647).toInt) / 65536) % 8) = 5 then
  C33_0 (((((Int64.ofInt (((F 1 14) * 1103515245) + 12345) &&& Int64.ofInt 2147483647).toInt) / 65536) / 8) % 12) (Wd S L (am_up F 1 14 ((Int64.ofInt (((F 1 14) * 1103515245) + 12345) &&& Int64.ofInt 2147483647).toInt)) G h) (fun v w1 => ∃ (v27 : Int) (F28 : Nat → Nat → Int), v = some (vi v27) ∧ w1 = (Wd S L F28 G h) ∧
   Q (none) (Wd S L F28 G h))
 else
 (if ((((Int64.ofInt (((F 1 14) * 1103515245) + 12345) &&& Int64.ofInt 2147483647).toInt) / 65536) % 8) = 6 then
  (((0 : Int) ≤ (((((Int64.ofInt (((F 1 14) * 1103515245) + 12345) &&& Int64.ofInt 2147483647).toInt) / 65536) / 128) % 12) ∧ (((((Int64.ofInt (((F 1 14) * 1103515245) + 12345) &&& Int64.ofInt 2147483647).toInt) / 65536) / 128) % 12) ≤ 2147483647) ∧
  C34_0 ((((((Int64.ofInt (((F 1 14) * 1103515245) + 12345) &&& Int64.ofInt 2147483647).toInt) / 65536) / 8) % 12) + 1) (((((((Int64.ofInt (((F 1 14) * 1103515245) + 12345) &&& Int64.ofInt 2147483647).toInt) / 65536) / 128) % 12) % 2) + 1) (Wd S L (am_up F 1 14 ((Int64.ofInt (((F 1 14) * 1103515245) + 12345) &&& Int64.ofInt 2147483647).toInt)) G h) (fun v w1 => ∃ (v31 : Int) (F32 : Nat → Nat → Int), v = some (vi v31) ∧ w1 = (Wd S L F32 G h) ∧
   Q (none) (Wd S L F32 G h)))
 else
 (((0 : Int) ≤ (((((Int64.ofInt (((F 1 14) * 1103515245) + 12345) &&& Int64.ofInt 2147483647).toInt) / 65536) / 8) % 12) ∧ (((((Int64.ofInt (((F 1 14) * 1103515245) + 12345) &&& Int64.ofInt 2147483647).toInt) / 65536) / 8) % 12) ≤ 2147483647) ∧
 C35_0 ((((((Int64.ofInt (((F 1 14) * 1103515245) + 12345) &&& Int64.ofInt 2147483647).toInt) / 65536) / 8) % 12) % 4) (Wd S L (am_up F 1 14 ((Int64.ofInt (((F 1 14) * 1103515245) + 12345) &&& Int64.ofInt 2147483647).toInt)) G h) (fun v w1 => ∃ (v34 : Int) (F35 : Nat → Nat → Int), v = some (vi v34) ∧ w1 = (Wd S L F35 G h) ∧
  Q (none) (Wd S L F35 G h)))))))))))) : C46_0  (Wd S L F G h) Q := by
  obtain ⟨g1, H⟩ := H
  obtain ⟨g2, H⟩ := H
  obtain ⟨g3, H⟩ := H
  obtain ⟨g4, H⟩ := H
  obtain ⟨g5, H⟩ := H
  obtain ⟨g6, H⟩ := H
  refine pt46 (s' := (58, [some (vr 1), some (vi (((Int64.ofInt (((F 1 14) * 1103515245) + 12345) &&& Int64.ofInt 2147483647).toInt) / 65536)), some (vi (((((Int64.ofInt (((F 1 14) * 1103515245) + 12345) &&& Int64.ofInt 2147483647).toInt) / 65536) / 8) % 12)), some (vi (((((Int64.ofInt (((F 1 14) * 1103515245) + 12345) &&& Int64.ofInt 2147483647).toInt) / 65536) / 128) % 12)), some (vi ((((Int64.ofInt (((F 1 14) * 1103515245) + 12345) &&& Int64.ofInt 2147483647).toInt) / 65536) / 2048))], [vi ((((Int64.ofInt (((F 1 14) * 1103515245) + 12345) &&& Int64.ofInt 2147483647).toInt) / 65536) % 8)], (Wd S L (am_up F 1 14 ((Int64.ofInt (((F 1 14) * 1103515245) + 12345) &&& Int64.ofInt 2147483647).toInt)) G h))) (by decide) [0, 0, 0, 0, 0, 0, 0, 0, 0, 0, 0, 0, 0, 0, 0, 0, 0, 0, 0, 0, 0, 0, 0, 0, 0, 0, 0, 0, 0, 0, 0, 0, 0, 0, 0, 0] rfl ⟨⟨⟨⟨⟨⟨⟨⟨⟨⟨⟨trivial, ⟨Nat.le_of_ble_eq_true rfl, rfl⟩⟩, g1⟩, ⟨Nat.le_of_ble_eq_true rfl, rfl, fun h => by cases h⟩⟩, ⟨Nat.le_of_ble_eq_true rfl, rfl⟩⟩, ⟨g2.1, g2.2, (by decide : (0 : Int) < 65536), (by decide : (65536 : Int) ≤ 2147483647)⟩⟩, ⟨g3.1, g3.2, (by decide : (0 : Int) < 8), (by decide : (8 : Int) ≤ 2147483647)⟩⟩, ⟨g4.1, g4.2, (by decide : (0 : Int) < 12), (by decide : (12 : Int) ≤ 2147483647)⟩⟩, ⟨g3.1, g3.2, (by decide : (0 : Int) < 128), (by decide : (128 : Int) ≤ 2147483647)⟩⟩, ⟨g5.1, g5.2, (by decide : (0 : Int) < 12), (by decide : (12 : Int) ≤ 2147483647)⟩⟩, ⟨g3.1, g3.2, (by decide : (0 : Int) < 2048), (by decide : (2048 : Int) ≤ 2147483647)⟩⟩, ⟨g3.1, g3.2, (by decide : (0 : Int) < 8), (by decide : (8 : Int) ≤ 2147483647)⟩⟩ ?_
  by_cases c7 : ((((Int64.ofInt (((F 1 14) * 1103515245) + 12345) &&& Int64.ofInt 2147483647).toInt) / 65536) % 8) = 0
  · rw [if_pos c7] at H
    refine pt46 (s' := (105, [some (vr 1), some (vi (((Int64.ofInt (((F 1 14) * 1103515245) + 12345) &&& Int64.ofInt 2147483647).toInt) / 65536)), some (vi (((((Int64.ofInt (((F 1 14) * 1103515245) + 12345) &&& Int64.ofInt 2147483647).toInt) / 65536) / 8) % 12)), some (vi (((((Int64.ofInt (((F 1 14) * 1103515245) + 12345) &&& Int64.ofInt 2147483647).toInt) / 65536) / 128) % 12)), some (vi ((((Int64.ofInt (((F 1 14) * 1103515245) + 12345) &&& Int64.ofInt 2147483647).toInt) / 65536) / 2048))], [vi ((((((Int64.ofInt (((F 1 14) * 1103515245) + 12345) &&& Int64.ofInt 2147483647).toInt) / 65536) / 128) % 12) + 1), vi (((((Int64.ofInt (((F 1 14) * 1103515245) + 12345) &&& Int64.ofInt 2147483647).toInt) / 65536) / 8) % 12), vr 1], (Wd S L (am_up F 1 14 ((Int64.ofInt (((F 1 14) * 1103515245) + 12345) &&& Int64.ofInt 2147483647).toInt)) G h))) (by decide) [1, 0, 0, 0, 0, 0] rfl ⟨trivial, ⟨g6, (by omega : ¬ ((((Int64.ofInt (((F 1 14) * 1103515245) + 12345) &&& Int64.ofInt 2147483647).toInt) / 65536) % 8) < 0), (by omega : ¬ 6 < ((((Int64.ofInt (((F 1 14) * 1103515245) + 12345) &&& Int64.ofInt 2147483647).toInt) / 65536) % 8)), c7⟩⟩ ?_
    refine wp.cl am_m46 rfl am_m32 9 [vr 1, vi (((((Int64.ofInt (((F 1 14) * 1103515245) + 12345) &&& Int64.ofInt 2147483647).toInt) / 65536) / 8) % 12), vi ((((((Int64.ofInt (((F 1 14) * 1103515245) + 12345) &&& Int64.ofInt 2147483647).toInt) / 65536) / 128) % 12) + 1)] [] rfl (Nat.le_of_ble_eq_true rfl) ⟨(Nat.le_of_ble_eq_true rfl), (Nat.le_of_ble_eq_true rfl)⟩ rfl (Nat.le_of_ble_eq_true rfl) rfl (Nat.le_of_ble_eq_true rfl) (Nat.le_of_ble_eq_true rfl) ⟨_, _, rfl, Nat.le_of_ble_eq_true rfl, rfl⟩ ?_
    refine wp.mono H ?_
    rintro v w1 ⟨v8, F9, rfl, rfl, H⟩
    show wp 10 46 (108, [some (vr 1), some (vi (((Int64.ofInt (((F 1 14) * 1103515245) + 12345) &&& Int64.ofInt 2147483647).toInt) / 65536)), some (vi (((((Int64.ofInt (((F 1 14) * 1103515245) + 12345) &&& Int64.ofInt 2147483647).toInt) / 65536) / 8) % 12)), some (vi (((((Int64.ofInt (((F 1 14) * 1103515245) + 12345) &&& Int64.ofInt 2147483647).toInt) / 65536) / 128) % 12)), some (vi ((((Int64.ofInt (((F 1 14) * 1103515245) + 12345) &&& Int64.ofInt 2147483647).toInt) / 65536) / 2048))], [vi v8], (Wd S L F9 G h)) _
    refine pt46 (s' := (181, [some (vr 1), some (vi (((Int64.ofInt (((F 1 14) * 1103515245) + 12345) &&& Int64.ofInt 2147483647).toInt) / 65536)), some (vi (((((Int64.ofInt (((F 1 14) * 1103515245) + 12345) &&& Int64.ofInt 2147483647).toInt) / 65536) / 8) % 12)), some (vi (((((Int64.ofInt (((F 1 14) * 1103515245) + 12345) &&& Int64.ofInt 2147483647).toInt) / 65536) / 128) % 12)), some (vi ((((Int64.ofInt (((F 1 14) * 1103515245) + 12345) &&& Int64.ofInt 2147483647).toInt) / 65536) / 2048))], [], (Wd S L F9 G h))) (by decide) [0, 0] rfl trivial ?_
    exact wp.fin (v := none) (by decide) am_m46 rfl ⟨rfl, rfl, rfl⟩ H
  · rw [if_neg c7] at H
    by_cases c10 : ((((Int64.ofInt (((F 1 14) * 1103515245) + 12345) &&& Int64.ofInt 2147483647).toInt) / 65536) % 8) = 1
    · rw [if_pos c10] at H
      refine pt46 (s' := (105, [some (vr 1), some (vi (((Int64.ofInt (((F 1 14) * 1103515245) + 12345) &&& Int64.ofInt 2147483647).toInt) / 65536)), some (vi (((((Int64.ofInt (((F 1 14) * 1103515245) + 12345) &&& Int64.ofInt 2147483647).toInt) / 65536) / 8) % 12)), some (vi (((((Int64.ofInt (((F 1 14) * 1103515245) + 12345) &&& Int64.ofInt 2147483647).toInt) / 65536) / 128) % 12)), some (vi ((((Int64.ofInt (((F 1 14) * 1103515245) + 12345) &&& Int64.ofInt 2147483647).toInt) / 65536) / 2048))], [vi ((((((Int64.ofInt (((F 1 14) * 1103515245) + 12345) &&& Int64.ofInt 2147483647).toInt) / 65536) / 128) % 12) + 1), vi (((((Int64.ofInt (((F 1 14) * 1103515245) + 12345) &&& Int64.ofInt 2147483647).toInt) / 65536) / 8) % 12), vr 1], (Wd S L (am_up F 1 14 ((Int64.ofInt (((F 1 14) * 1103515245) + 12345) &&& Int64.ofInt 2147483647).toInt)) G h))) (by decide) [2, 0, 0, 0, 0, 0] rfl ⟨trivial, ⟨g6, (by omega : ¬ ((((Int64.ofInt (((F 1 14) * 1103515245) + 12345) &&& Int64.ofInt 2147483647).toInt) / 65536) % 8) < 0), (by omega : ¬ 6 < ((((Int64.ofInt (((F 1 14) * 1103515245) + 12345) &&& Int64.ofInt 2147483647).toInt) / 65536) % 8)), c10⟩⟩ ?_
      refine wp.cl am_m46 rfl am_m32 9 [vr 1, vi (((((Int64.ofInt (((F 1 14) * 1103515245) + 12345) &&& Int64.ofInt 2147483647).toInt) / 65536) / 8) % 12), vi ((((((Int64.ofInt (((F 1 14) * 1103515245) + 12345) &&& Int64.ofInt 2147483647).toInt) / 65536) / 128) % 12) + 1)] [] rfl (Nat.le_of_ble_eq_true rfl) ⟨(Nat.le_of_ble_eq_true rfl), (Nat.le_of_ble_eq_true rfl)⟩ rfl (Nat.le_of_ble_eq_true rfl) rfl (Nat.le_of_ble_eq_true rfl) (Nat.le_of_ble_eq_true rfl) ⟨_, _, rfl, Nat.le_of_ble_eq_true rfl, rfl⟩ ?_
      refine wp.mono H ?_
      rintro v w1 ⟨v11, F12, rfl, rfl, H⟩
      show wp 10 46 (108, [some (vr 1), some (vi (((Int64.ofInt (((F 1 14) * 1103515245) + 12345) &&& Int64.ofInt 2147483647).toInt) / 65536)), some (vi (((((Int64.ofInt (((F 1 14) * 1103515245) + 12345) &&& Int64.ofInt 2147483647).toInt) / 65536) / 8) % 12)), some (vi (((((Int64.ofInt (((F 1 14) * 1103515245) + 12345) &&& Int64.ofInt 2147483647).toInt) / 65536) / 128) % 12)), some (vi ((((Int64.ofInt (((F 1 14) * 1103515245) + 12345) &&& Int64.ofInt 2147483647).toInt) / 65536) / 2048))], [vi v11], (Wd S L F12 G h)) _
      refine pt46 (s' := (181, [some (vr 1), some (vi (((Int64.ofInt (((F 1 14) * 1103515245) + 12345) &&& Int64.ofInt 2147483647).toInt) / 65536)), some (vi (((((Int64.ofInt (((F 1 14) * 1103515245) + 12345) &&& Int64.ofInt 2147483647).toInt) / 65536) / 8) % 12)), some (vi (((((Int64.ofInt (((F 1 14) * 1103515245) + 12345) &&& Int64.ofInt 2147483647).toInt) / 65536) / 128) % 12)), some (vi ((((Int64.ofInt (((F 1 14) * 1103515245) + 12345) &&& Int64.ofInt 2147483647).toInt) / 65536) / 2048))], [], (Wd S L F12 G h))) (by decide) [0, 0] rfl trivial ?_
      exact wp.fin (v := none) (by decide) am_m46 rfl ⟨rfl, rfl, rfl⟩ H
    · rw [if_neg c10] at H
      by_cases c13 : ((((Int64.ofInt (((F 1 14) * 1103515245) + 12345) &&& Int64.ofInt 2147483647).toInt) / 65536) % 8) = 2
      · rw [if_pos c13] at H
        refine pt46 (s' := (105, [some (vr 1), some (vi (((Int64.ofInt (((F 1 14) * 1103515245) + 12345) &&& Int64.ofInt 2147483647).toInt) / 65536)), some (vi (((((Int64.ofInt (((F 1 14) * 1103515245) + 12345) &&& Int64.ofInt 2147483647).toInt) / 65536) / 8) % 12)), some (vi (((((Int64.ofInt (((F 1 14) * 1103515245) + 12345) &&& Int64.ofInt 2147483647).toInt) / 65536) / 128) % 12)), some (vi ((((Int64.ofInt (((F 1 14) * 1103515245) + 12345) &&& Int64.ofInt 2147483647).toInt) / 65536) / 2048))], [vi ((((((Int64.ofInt (((F 1 14) * 1103515245) + 12345) &&& Int64.ofInt 2147483647).toInt) / 65536) / 128) % 12) + 1), vi (((((Int64.ofInt (((F 1 14) * 1103515245) + 12345) &&& Int64.ofInt 2147483647).toInt) / 65536) / 8) % 12), vr 1], (Wd S L (am_up F 1 14 ((Int64.ofInt (((F 1 14) * 1103515245) + 12345) &&& Int64.ofInt 2147483647).toInt)) G h))) (by decide) [3, 0, 0, 0, 0, 0] rfl ⟨trivial, ⟨g6, (by omega : ¬ ((((Int64.ofInt (((F 1 14) * 1103515245) + 12345) &&& Int64.ofInt 2147483647).toInt) / 65536) % 8) < 0), (by omega : ¬ 6 < ((((Int64.ofInt (((F 1 14) * 1103515245) + 12345) &&& Int64.ofInt 2147483647).toInt) / 65536) % 8)), c13⟩⟩ ?_
        refine wp.cl am_m46 rfl am_m32 9 [vr 1, vi (((((Int64.ofInt (((F 1 14) * 1103515245) + 12345) &&& Int64.ofInt 2147483647).toInt) / 65536) / 8) % 12), vi ((((((Int64.ofInt (((F 1 14) * 1103515245) + 12345) &&& Int64.ofInt 2147483647).toInt) / 65536) / 128) % 12) + 1)] [] rfl (Nat.le_of_ble_eq_true rfl) ⟨(Nat.le_of_ble_eq_true rfl), (Nat.le_of_ble_eq_true rfl)⟩ rfl (Nat.le_of_ble_eq_true rfl) rfl (Nat.le_of_ble_eq_true rfl) (Nat.le_of_ble_eq_true rfl) ⟨_, _, rfl, Nat.le_of_ble_eq_true rfl, rfl⟩ ?_
        refine wp.mono H ?_
        rintro v w1 ⟨v14, F15, rfl, rfl, H⟩
        show wp 10 46 (108, [some (vr 1), some (vi (((Int64.ofInt (((F 1 14) * 1103515245) + 12345) &&& Int64.ofInt 2147483647).toInt) / 65536)), some (vi (((((Int64.ofInt (((F 1 14) * 1103515245) + 12345) &&& Int64.ofInt 2147483647).toInt) / 65536) / 8) % 12)), some (vi (((((Int64.ofInt (((F 1 14) * 1103515245) + 12345) &&& Int64.ofInt 2147483647).toInt) / 65536) / 128) % 12)), some (vi ((((Int64.ofInt (((F 1 14) * 1103515245) + 12345) &&& Int64.ofInt 2147483647).toInt) / 65536) / 2048))], [vi v14], (Wd S L F15 G h)) _
        refine pt46 (s' := (181, [some (vr 1), some (vi (((Int64.ofInt (((F 1 14) * 1103515245) + 12345) &&& Int64.ofInt 2147483647).toInt) / 65536)), some (vi (((((Int64.ofInt (((F 1 14) * 1103515245) + 12345) &&& Int64.ofInt 2147483647).toInt) / 65536) / 8) % 12)), some (vi (((((Int64.ofInt (((F 1 14) * 1103515245) + 12345) &&& Int64.ofInt 2147483647).toInt) / 65536) / 128) % 12)), some (vi ((((Int64.ofInt (((F 1 14) * 1103515245) + 12345) &&& Int64.ofInt 2147483647).toInt) / 65536) / 2048))], [], (Wd S L F15 G h))) (by decide) [0, 0] rfl trivial ?_
        exact wp.fin (v := none) (by decide) am_m46 rfl ⟨rfl, rfl, rfl⟩ H
      · rw [if_neg c13] at H
        by_cases c16 : ((((Int64.ofInt (((F 1 14) * 1103515245) + 12345) &&& Int64.ofInt 2147483647).toInt) / 65536) % 8) = 3
        · rw [if_pos c16] at H
          obtain ⟨g17, H⟩ := H
          obtain ⟨g18, H⟩ := H
          refine pt46 (s' := (123, [some (vr 1), some (vi (((Int64.ofInt (((F 1 14) * 1103515245) + 12345) &&& Int64.ofInt 2147483647).toInt) / 65536)), some (vi (((((Int64.ofInt (((F 1 14) * 1103515245) + 12345) &&& Int64.ofInt 2147483647).toInt) / 65536) / 8) % 12)), some (vi (((((Int64.ofInt (((F 1 14) * 1103515245) + 12345) &&& Int64.ofInt 2147483647).toInt) / 65536) / 128) % 12)), some (vi ((((Int64.ofInt (((F 1 14) * 1103515245) + 12345) &&& Int64.ofInt 2147483647).toInt) / 65536) / 2048))], [vi (((((Int64.ofInt (((F 1 14) * 1103515245) + 12345) &&& Int64.ofInt 2147483647).toInt) / 65536) / 2048) % 6), vi ((((((Int64.ofInt (((F 1 14) * 1103515245) + 12345) &&& Int64.ofInt 2147483647).toInt) / 65536) / 128) % 12) % 8), vi (((((Int64.ofInt (((F 1 14) * 1103515245) + 12345) &&& Int64.ofInt 2147483647).toInt) / 65536) / 8) % 12), vr 1], (Wd S L (am_up F 1 14 ((Int64.ofInt (((F 1 14) * 1103515245) + 12345) &&& Int64.ofInt 2147483647).toInt)) G h))) (by decide) [4, 0, 0, 0, 0, 0, 0, 0, 0] rfl ⟨⟨⟨trivial, ⟨g6, (by omega : ¬ ((((Int64.ofInt (((F 1 14) * 1103515245) + 12345) &&& Int64.ofInt 2147483647).toInt) / 65536) % 8) < 0), (by omega : ¬ 6 < ((((Int64.ofInt (((F 1 14) * 1103515245) + 12345) &&& Int64.ofInt 2147483647).toInt) / 65536) % 8)), c16⟩⟩, ⟨g17.1, g17.2, (by decide : (0 : Int) < 8), (by decide : (8 : Int) ≤ 2147483647)⟩⟩, ⟨g18.1, g18.2, (by decide : (0 : Int) < 6), (by decide : (6 : Int) ≤ 2147483647)⟩⟩ ?_
          refine wp.cl am_m46 rfl am_m31 7 [vr 1, vi (((((Int64.ofInt (((F 1 14) * 1103515245) + 12345) &&& Int64.ofInt 2147483647).toInt) / 65536) / 8) % 12), vi ((((((Int64.ofInt (((F 1 14) * 1103515245) + 12345) &&& Int64.ofInt 2147483647).toInt) / 65536) / 128) % 12) % 8), vi (((((Int64.ofInt (((F 1 14) * 1103515245) + 12345) &&& Int64.ofInt 2147483647).toInt) / 65536) / 2048) % 6)] [] rfl (Nat.le_of_ble_eq_true rfl) ⟨(Nat.le_of_ble_eq_true rfl), (Nat.le_of_ble_eq_true rfl)⟩ rfl (Nat.le_of_ble_eq_true rfl) rfl (Nat.le_of_ble_eq_true rfl) (Nat.le_of_ble_eq_true rfl) ⟨_, _, rfl, Nat.le_of_ble_eq_true rfl, rfl⟩ ?_
          refine wp.mono H ?_
          rintro v w1 ⟨v19, F20, rfl, rfl, H⟩
          show wp 10 46 (126, [some (vr 1), some (vi (((Int64.ofInt (((F 1 14) * 1103515245) + 12345) &&& Int64.ofInt 2147483647).toInt) / 65536)), some (vi (((((Int64.ofInt (((F 1 14) * 1103515245) + 12345) &&& Int64.ofInt 2147483647).toInt) / 65536) / 8) % 12)), some (vi (((((Int64.ofInt (((F 1 14) * 1103515245) + 12345) &&& Int64.ofInt 2147483647).toInt) / 65536) / 128) % 12)), some (vi ((((Int64.ofInt (((F 1 14) * 1103515245) + 12345) &&& Int64.ofInt 2147483647).toInt) / 65536) / 2048))], [vi v19], (Wd S L F20 G h)) _
          refine pt46 (s' := (181, [some (vr 1), some (vi (((Int64.ofInt (((F 1 14) * 1103515245) + 12345) &&& Int64.ofInt 2147483647).toInt) / 65536)), some (vi (((((Int64.ofInt (((F 1 14) * 1103515245) + 12345) &&& Int64.ofInt 2147483647).toInt) / 65536) / 8) % 12)), some (vi (((((Int64.ofInt (((F 1 14) * 1103515245) + 12345) &&& Int64.ofInt 2147483647).toInt) / 65536) / 128) % 12)), some (vi ((((Int64.ofInt (((F 1 14) * 1103515245) + 12345) &&& Int64.ofInt 2147483647).toInt) / 65536) / 2048))], [], (Wd S L F20 G h))) (by decide) [0, 0] rfl trivial ?_
          exact wp.fin (v := none) (by decide) am_m46 rfl ⟨rfl, rfl, rfl⟩ H
        · rw [if_neg c16] at H
          by_cases c21 : ((((Int64.ofInt (((F 1 14) * 1103515245) + 12345) &&& Int64.ofInt 2147483647).toInt) / 65536) % 8) = 4
          · rw [if_pos c21] at H
            obtain ⟨g22, H⟩ := H
            obtain ⟨g23, H⟩ := H
            refine pt46 (s' := (141, [some (vr 1), some (vi (((Int64.ofInt (((F 1 14) * 1103515245) + 12345) &&& Int64.ofInt 2147483647).toInt) / 65536)), some (vi (((((Int64.ofInt (((F 1 14) * 1103515245) + 12345) &&& Int64.ofInt 2147483647).toInt) / 65536) / 8) % 12)), some (vi (((((Int64.ofInt (((F 1 14) * 1103515245) + 12345) &&& Int64.ofInt 2147483647).toInt) / 65536) / 128) % 12)), some (vi ((((Int64.ofInt (((F 1 14) * 1103515245) + 12345) &&& Int64.ofInt 2147483647).toInt) / 65536) / 2048))], [vi (((((Int64.ofInt (((F 1 14) * 1103515245) + 12345) &&& Int64.ofInt 2147483647).toInt) / 65536) / 2048) % 13), vi (((((Int64.ofInt (((F 1 14) * 1103515245) + 12345) &&& Int64.ofInt 2147483647).toInt) / 65536) / 128) % 12), vi ((((((Int64.ofInt (((F 1 14) * 1103515245) + 12345) &&& Int64.ofInt 2147483647).toInt) / 65536) / 8) % 12) % 8), vr 1], (Wd S L (am_up F 1 14 ((Int64.ofInt (((F 1 14) * 1103515245) + 12345) &&& Int64.ofInt 2147483647).toInt)) G h))) (by decide) [5, 0, 0, 0, 0, 0, 0, 0, 0] rfl ⟨⟨⟨trivial, ⟨g6, (by omega : ¬ ((((Int64.ofInt (((F 1 14) * 1103515245) + 12345) &&& Int64.ofInt 2147483647).toInt) / 65536) % 8) < 0), (by omega : ¬ 6 < ((((Int64.ofInt (((F 1 14) * 1103515245) + 12345) &&& Int64.ofInt 2147483647).toInt) / 65536) % 8)), c21⟩⟩, ⟨g22.1, g22.2, (by decide : (0 : Int) < 8), (by decide : (8 : Int) ≤ 2147483647)⟩⟩, ⟨g23.1, g23.2, (by decide : (0 : Int) < 13), (by decide : (13 : Int) ≤ 2147483647)⟩⟩ ?_
            refine wp.cl am_m46 rfl am_m30 7 [vr 1, vi ((((((Int64.ofInt (((F 1 14) * 1103515245) + 12345) &&& Int64.ofInt 2147483647).toInt) / 65536) / 8) % 12) % 8), vi (((((Int64.ofInt (((F 1 14) * 1103515245) + 12345) &&& Int64.ofInt 2147483647).toInt) / 65536) / 128) % 12), vi (((((Int64.ofInt (((F 1 14) * 1103515245) + 12345) &&& Int64.ofInt 2147483647).toInt) / 65536) / 2048) % 13)] [] rfl (Nat.le_of_ble_eq_true rfl) ⟨(Nat.le_of_ble_eq_true rfl), (Nat.le_of_ble_eq_true rfl)⟩ rfl (Nat.le_of_ble_eq_true rfl) rfl (Nat.le_of_ble_eq_true rfl) (Nat.le_of_ble_eq_true rfl) ⟨_, _, rfl, Nat.le_of_ble_eq_true rfl, rfl⟩ ?_
            refine wp.mono H ?_
            rintro v w1 ⟨v24, F25, rfl, rfl, H⟩
            show wp 10 46 (144, [some (vr 1), some (vi (((Int64.ofInt (((F 1 14) * 1103515245) + 12345) &&& Int64.ofInt 2147483647).toInt) / 65536)), some (vi (((((Int64.ofInt (((F 1 14) * 1103515245) + 12345) &&& Int64.ofInt 2147483647).toInt) / 65536) / 8) % 12)), some (vi (((((Int64.ofInt (((F 1 14) * 1103515245) + 12345) &&& Int64.ofInt 2147483647).toInt) / 65536) / 128) % 12)), some (vi ((((Int64.ofInt (((F 1 14) * 1103515245) + 12345) &&& Int64.ofInt 2147483647).toInt) / 65536) / 2048))], [vi v24], (Wd S L F25 G h)) _
            refine pt46 (s' := (181, [some (vr 1), some (vi (((Int64.ofInt (((F 1 14) * 1103515245) + 12345) &&& Int64.ofInt 2147483647).toInt) / 65536)), some (vi (((((Int64.ofInt (((F 1 14) * 1103515245) + 12345) &&& Int64.ofInt 2147483647).toInt) / 65536) / 8) % 12)), some (vi (((((Int64.ofInt (((F 1 14) * 1103515245) + 12345) &&& Int64.ofInt 2147483647).toInt) / 65536) / 128) % 12)), some (vi ((((Int64.ofInt (((F 1 14) * 1103515245) + 12345) &&& Int64.ofInt 2147483647).toInt) / 65536) / 2048))], [], (Wd S L F25 G h))) (by decide) [0, 0] rfl trivial ?_
            exact wp.fin (v := none) (by decide) am_m46 rfl ⟨rfl, rfl, rfl⟩ H
          · rw [if_neg c21] at H
            by_cases c26 : ((((Int64.ofInt (((F 1 14) * 1103515245) + 12345) &&& Int64.ofInt 2147483647).toInt) / 65536) % 8) = 5
            · rw [if_pos c26] at H
              refine pt46 (s' := (150, [some (vr 1), some (vi (((Int64.ofInt (((F 1 14) * 1103515245) + 12345) &&& Int64.ofInt 2147483647).toInt) / 65536)), some (vi (((((Int64.ofInt (((F 1 14) * 1103515245) + 12345) &&& Int64.ofInt 2147483647).toInt) / 65536) / 8) % 12)), some (vi (((((Int64.ofInt (((F 1 14) * 1103515245) + 12345) &&& Int64.ofInt 2147483647).toInt) / 65536) / 128) % 12)), some (vi ((((Int64.ofInt (((F 1 14) * 1103515245) + 12345) &&& Int64.ofInt 2147483647).toInt) / 65536) / 2048))], [vi (((((Int64.ofInt (((F 1 14) * 1103515245) + 12345) &&& Int64.ofInt 2147483647).toInt) / 65536) / 8) % 12), vr 1], (Wd S L (am_up F 1 14 ((Int64.ofInt (((F 1 14) * 1103515245) + 12345) &&& Int64.ofInt 2147483647).toInt)) G h))) (by decide) [6, 0, 0] rfl ⟨trivial, ⟨g6, (by omega : ¬ ((((Int64.ofInt (((F 1 14) * 1103515245) + 12345) &&& Int64.ofInt 2147483647).toInt) / 65536) % 8) < 0), (by omega : ¬ 6 < ((((Int64.ofInt (((F 1 14) * 1103515245) + 12345) &&& Int64.ofInt 2147483647).toInt) / 65536) % 8)), c26⟩⟩ ?_
              refine wp.cl am_m46 rfl am_m33 7 [vr 1, vi (((((Int64.ofInt (((F 1 14) * 1103515245) + 12345) &&& Int64.ofInt 2147483647).toInt) / 65536) / 8) % 12)] [] rfl (Nat.le_of_ble_eq_true rfl) ⟨(Nat.le_of_ble_eq_true rfl), (Nat.le_of_ble_eq_true rfl)⟩ rfl (Nat.le_of_ble_eq_true rfl) rfl (Nat.le_of_ble_eq_true rfl) (Nat.le_of_ble_eq_true rfl) ⟨_, _, rfl, Nat.le_of_ble_eq_true rfl, rfl⟩ ?_
              refine wp.mono H ?_
              rintro v w1 ⟨v27, F28, rfl, rfl, H⟩
              show wp 10 46 (153, [some (vr 1), some (vi (((Int64.ofInt (((F 1 14) * 1103515245) + 12345) &&& Int64.ofInt 2147483647).toInt) / 65536)), some (vi (((((Int64.ofInt (((F 1 14) * 1103515245) + 12345) &&& Int64.ofInt 2147483647).toInt) / 65536) / 8) % 12)), some (vi (((((Int64.ofInt (((F 1 14) * 1103515245) + 12345) &&& Int64.ofInt 2147483647).toInt) / 65536) / 128) % 12)), some (vi ((((Int64.ofInt (((F 1 14) * 1103515245) + 12345) &&& Int64.ofInt 2147483647).toInt) / 65536) / 2048))], [vi v27], (Wd S L F28 G h)) _
              refine pt46 (s' := (181, [some (vr 1), some (vi (((Int64.ofInt (((F 1 14) * 1103515245) + 12345) &&& Int64.ofInt 2147483647).toInt) / 65536)), some (vi (((((Int64.ofInt (((F 1 14) * 1103515245) + 12345) &&& Int64.ofInt 2147483647).toInt) / 65536) / 8) % 12)), some (vi (((((Int64.ofInt (((F 1 14) * 1103515245) + 12345) &&& Int64.ofInt 2147483647).toInt) / 65536) / 128) % 12)), some (vi ((((Int64.ofInt (((F 1 14) * 1103515245) + 12345) &&& Int64.ofInt 2147483647).toInt) / 65536) / 2048))], [], (Wd S L F28 G h))) (by decide) [0, 0] rfl trivial ?_
              exact wp.fin (v := none) (by decide) am_m46 rfl ⟨rfl, rfl, rfl⟩ H
            · rw [if_neg c26] at H
              by_cases c29 : ((((Int64.ofInt (((F 1 14) * 1103515245) + 12345) &&& Int64.ofInt 2147483647).toInt) / 65536) % 8) = 6
              · rw [if_pos c29] at H
                obtain ⟨g30, H⟩ := H
                refine pt46 (s' := (166, [some (vr 1), some (vi (((Int64.ofInt (((F 1 14) * 1103515245) + 12345) &&& Int64.ofInt 2147483647).toInt) / 65536)), some (vi (((((Int64.ofInt (((F 1 14) * 1103515245) + 12345) &&& Int64.ofInt 2147483647).toInt) / 65536) / 8) % 12)), some (vi (((((Int64.ofInt (((F 1 14) * 1103515245) + 12345) &&& Int64.ofInt 2147483647).toInt) / 65536) / 128) % 12)), some (vi ((((Int64.ofInt (((F 1 14) * 1103515245) + 12345) &&& Int64.ofInt 2147483647).toInt) / 65536) / 2048))], [vi (((((((Int64.ofInt (((F 1 14) * 1103515245) + 12345) &&& Int64.ofInt 2147483647).toInt) / 65536) / 128) % 12) % 2) + 1), vi ((((((Int64.ofInt (((F 1 14) * 1103515245) + 12345) &&& Int64.ofInt 2147483647).toInt) / 65536) / 8) % 12) + 1), vr 1], (Wd S L (am_up F 1 14 ((Int64.ofInt (((F 1 14) * 1103515245) + 12345) &&& Int64.ofInt 2147483647).toInt)) G h))) (by decide) [7, 0, 0, 0, 0, 0, 0, 0, 0, 0] rfl ⟨⟨trivial, ⟨g6, (by omega : ¬ ((((Int64.ofInt (((F 1 14) * 1103515245) + 12345) &&& Int64.ofInt 2147483647).toInt) / 65536) % 8) < 0), (by omega : ¬ 6 < ((((Int64.ofInt (((F 1 14) * 1103515245) + 12345) &&& Int64.ofInt 2147483647).toInt) / 65536) % 8)), c29⟩⟩, ⟨g30.1, g30.2, (by decide : (0 : Int) < 2), (by decide : (2 : Int) ≤ 2147483647)⟩⟩ ?_
                refine wp.cl am_m46 rfl am_m34 8 [vr 1, vi ((((((Int64.ofInt (((F 1 14) * 1103515245) + 12345) &&& Int64.ofInt 2147483647).toInt) / 65536) / 8) % 12) + 1), vi (((((((Int64.ofInt (((F 1 14) * 1103515245) + 12345) &&& Int64.ofInt 2147483647).toInt) / 65536) / 128) % 12) % 2) + 1)] [] rfl (Nat.le_of_ble_eq_true rfl) ⟨(Nat.le_of_ble_eq_true rfl), (Nat.le_of_ble_eq_true rfl)⟩ rfl (Nat.le_of_ble_eq_true rfl) rfl (Nat.le_of_ble_eq_true rfl) (Nat.le_of_ble_eq_true rfl) ⟨_, _, rfl, Nat.le_of_ble_eq_true rfl, rfl⟩ ?_
                refine wp.mono H ?_
                rintro v w1 ⟨v31, F32, rfl, rfl, H⟩
                show wp 10 46 (169, [some (vr 1), some (vi (((Int64.ofInt (((F 1 14) * 1103515245) + 12345) &&& Int64.ofInt 2147483647).toInt) / 65536)), some (vi (((((Int64.ofInt (((F 1 14) * 1103515245) + 12345) &&& Int64.ofInt 2147483647).toInt) / 65536) / 8) % 12)), some (vi (((((Int64.ofInt (((F 1 14) * 1103515245) + 12345) &&& Int64.ofInt 2147483647).toInt) / 65536) / 128) % 12)), some (vi ((((Int64.ofInt (((F 1 14) * 1103515245) + 12345) &&& Int64.ofInt 2147483647).toInt) / 65536) / 2048))], [vi v31], (Wd S L F32 G h)) _
                refine pt46 (s' := (181, [some (vr 1), some (vi (((Int64.ofInt (((F 1 14) * 1103515245) + 12345) &&& Int64.ofInt 2147483647).toInt) / 65536)), some (vi (((((Int64.ofInt (((F 1 14) * 1103515245) + 12345) &&& Int64.ofInt 2147483647).toInt) / 65536) / 8) % 12)), some (vi (((((Int64.ofInt (((F 1 14) * 1103515245) + 12345) &&& Int64.ofInt 2147483647).toInt) / 65536) / 128) % 12)), some (vi ((((Int64.ofInt (((F 1 14) * 1103515245) + 12345) &&& Int64.ofInt 2147483647).toInt) / 65536) / 2048))], [], (Wd S L F32 G h))) (by decide) [0, 0] rfl trivial ?_
                exact wp.fin (v := none) (by decide) am_m46 rfl ⟨rfl, rfl, rfl⟩ H
              · rw [if_neg c29] at H
                obtain ⟨g33, H⟩ := H
                refine pt46 (s' := (177, [some (vr 1), some (vi (((Int64.ofInt (((F 1 14) * 1103515245) + 12345) &&& Int64.ofInt 2147483647).toInt) / 65536)), some (vi (((((Int64.ofInt (((F 1 14) * 1103515245) + 12345) &&& Int64.ofInt 2147483647).toInt) / 65536) / 8) % 12)), some (vi (((((Int64.ofInt (((F 1 14) * 1103515245) + 12345) &&& Int64.ofInt 2147483647).toInt) / 65536) / 128) % 12)), some (vi ((((Int64.ofInt (((F 1 14) * 1103515245) + 12345) &&& Int64.ofInt 2147483647).toInt) / 65536) / 2048))], [vi ((((((Int64.ofInt (((F 1 14) * 1103515245) + 12345) &&& Int64.ofInt 2147483647).toInt) / 65536) / 8) % 12) % 4), vr 1], (Wd S L (am_up F 1 14 ((Int64.ofInt (((F 1 14) * 1103515245) + 12345) &&& Int64.ofInt 2147483647).toInt)) G h))) (by decide) [0, 0, 0, 0, 0] rfl ⟨⟨trivial, ⟨g6, (by omega : ((((Int64.ofInt (((F 1 14) * 1103515245) + 12345) &&& Int64.ofInt 2147483647).toInt) / 65536) % 8) < 0 ∨ 6 < ((((Int64.ofInt (((F 1 14) * 1103515245) + 12345) &&& Int64.ofInt 2147483647).toInt) / 65536) % 8))⟩⟩, ⟨g33.1, g33.2, (by decide : (0 : Int) < 4), (by decide : (4 : Int) ≤ 2147483647)⟩⟩ ?_
                refine wp.cl am_m46 rfl am_m35 7 [vr 1, vi ((((((Int64.ofInt (((F 1 14) * 1103515245) + 12345) &&& Int64.ofInt 2147483647).toInt) / 65536) / 8) % 12) % 4)] [] rfl (Nat.le_of_ble_eq_true rfl) ⟨(Nat.le_of_ble_eq_true rfl), (Nat.le_of_ble_eq_true rfl)⟩ rfl (Nat.le_of_ble_eq_true rfl) rfl (Nat.le_of_ble_eq_true rfl) (Nat.le_of_ble_eq_true rfl) ⟨_, _, rfl, Nat.le_of_ble_eq_true rfl, rfl⟩ ?_
                refine wp.mono H ?_
                rintro v w1 ⟨v34, F35, rfl, rfl, H⟩
                show wp 10 46 (180, [some (vr 1), some (vi (((Int64.ofInt (((F 1 14) * 1103515245) + 12345) &&& Int64.ofInt 2147483647).toInt) / 65536)), some (vi (((((Int64.ofInt (((F 1 14) * 1103515245) + 12345) &&& Int64.ofInt 2147483647).toInt) / 65536) / 8) % 12)), some (vi (((((Int64.ofInt (((F 1 14) * 1103515245) + 12345) &&& Int64.ofInt 2147483647).toInt) / 65536) / 128) % 12)), some (vi ((((Int64.ofInt (((F 1 14) * 1103515245) + 12345) &&& Int64.ofInt 2147483647).toInt) / 65536) / 2048))], [vi v34], (Wd S L F35 G h)) _
                refine pt46 (s' := (181, [some (vr 1), some (vi (((Int64.ofInt (((F 1 14) * 1103515245) + 12345) &&& Int64.ofInt 2147483647).toInt) / 65536)), some (vi (((((Int64.ofInt (((F 1 14) * 1103515245) + 12345) &&& Int64.ofInt 2147483647).toInt) / 65536) / 8) % 12)), some (vi (((((Int64.ofInt (((F 1 14) * 1103515245) + 12345) &&& Int64.ofInt 2147483647).toInt) / 65536) / 128) % 12)), some (vi ((((Int64.ofInt (((F 1 14) * 1103515245) + 12345) &&& Int64.ofInt 2147483647).toInt) / 65536) / 2048))], [], (Wd S L F35 G h))) (by decide) [0] rfl trivial ?_
                exact wp.fin (v := none) (by decide) am_m46 rfl ⟨rfl, rfl, rfl⟩ H
set_option maxRecDepth 100000 in
set_option maxHeartbeats 4000000 in
theorem T48_0 {S L : Nat} {F G : Nat → Nat → Int} {h : Nat → Nat → Option Nat} (hh : RfH h) {a1 : Int}  {Q : Option V2 → W2 → Prop}
    (H : (R32 (F 284 1) ∧
 (if (F 284 1) < 90 then
  ((0 ≤ (F 284 1) ∧ (F 284 1) < 90) ∧
  Q (some (vi ((F 284 1) + 1))) (Wd S L (am_up (am_up F 285 (F 284 1).toNat a1) 284 1 ((F 284 1) + 1)) G h))
 else
  Q (some (vi (-3))) (Wd S L F G h)))) : C48_0 a1 (Wd S L F G h) Q := by
  obtain ⟨g1, H⟩ := H
  refine pt48 (s' := (6, [some (vr 284), some (vi a1)], [vi 90, vi (F 284 1)], (Wd S L F G h))) (by decide) [0, 0, 0] rfl ⟨trivial, ⟨Nat.le_of_ble_eq_true rfl, rfl⟩⟩ ?_
  by_cases c2 : (F 284 1) < 90
  · rw [if_pos c2] at H
    obtain ⟨g3, H⟩ := H
    refine pt48 (s' := (36, [some (vr 284), some (vi a1)], [vi ((F 284 1) + 1)], (Wd S L (am_up (am_up F 285 (F 284 1).toNat a1) 284 1 ((F 284 1) + 1)) G h))) (by decide) [1, 0, 285, 0, 0, 0, 0, 0, 0, 0, 0, 0, 0, 0, 0] rfl ⟨⟨⟨⟨⟨⟨⟨trivial, ⟨⟨g1, (by decide : R32 90)⟩, c2⟩⟩, ⟨Nat.le_of_ble_eq_true rfl, rfl, hh _ _ _ rfl⟩⟩, ⟨Nat.le_of_ble_eq_true rfl, rfl⟩⟩, (ix ⟨Nat.le_of_ble_eq_true rfl, rfl⟩ g3)⟩, ⟨Nat.le_of_ble_eq_true rfl, rfl⟩⟩, ⟨Nat.le_of_ble_eq_true rfl, rfl, fun h => by cases h⟩⟩, ⟨Nat.le_of_ble_eq_true rfl, rfl⟩⟩ ?_
    exact wp.fin (v := some (vi ((F 284 1) + 1))) (by decide) am_m48 rfl ⟨_, rfl, Or.inl rfl, rfl⟩ H
  · rw [if_neg c2] at H
    refine pt48 (s' := (11, [some (vr 284), some (vi a1)], [vi (-3)], (Wd S L F G h))) (by decide) [0, 0] rfl ⟨trivial, ⟨⟨g1, (by decide : R32 90)⟩, c2⟩⟩ ?_
    exact wp.fin (v := some (vi (-3))) (by decide) am_m48 rfl ⟨_, rfl, Or.inl rfl, rfl⟩ H
set_option maxRecDepth 100000 in
set_option maxHeartbeats 4000000 in
theorem T50_0 {S L : Nat} {F G : Nat → Nat → Int} {h : Nat → Nat → Option Nat} (hh : RfH h)   {Q : Option V2 → W2 → Prop}
    (H : C51_0  (Wd S L (am_up (am_up (am_up F 284 2 0) 284 3 (-1)) 284 7 0) G h) (fun v w1 => ∃ (F1 : Nat → Nat → Int), v = none ∧ w1 = (Wd S L F1 G h) ∧
  (R32 (F1 284 4) ∧
  (if (F1 284 4) = 1 then
   C54_0  (Wd S L F1 G h) (fun v w1 => ∃ (F4 : Nat → Nat → Int), v = none ∧ w1 = (Wd S L F4 G h) ∧
    C62_0  (Wd S L F4 G h) (fun v w1 => ∃ (F5 : Nat → Nat → Int), v = none ∧ w1 = (Wd S L F5 G h) ∧
     (R32 (F5 284 2) ∧
     R32 (F5 284 1) ∧
     (if (F5 284 1) ≤ (F5 284 2) then
      Q (none) (Wd S L F5 G h)
     else
      C64_0 (F5 284 2) (Wd S L F5 G h) (fun v w1 => ∃ (F9 : Nat → Nat → Int), v = none ∧ w1 = (Wd S L F9 G h) ∧
       Q (none) (Wd S L F9 G h))))))
  else
  (if (F1 284 4) = 2 then
   C57_0  (Wd S L F1 G h) (fun v w1 => ∃ (F11 : Nat → Nat → Int), v = none ∧ w1 = (Wd S L F11 G h) ∧
    C62_0  (Wd S L F11 G h) (fun v w1 => ∃ (F12 : Nat → Nat → Int), v = none ∧ w1 = (Wd S L F12 G h) ∧
     (R32 (F12 284 2) ∧
     R32 (F12 284 1) ∧
     (if (F12 284 1) ≤ (F12 284 2) then
      Q (none) (Wd S L F12 G h)
     else
      C64_0 (F12 284 2) (Wd S L F12 G h) (fun v w1 => ∃ (F16 : Nat → Nat → Int), v = none ∧ w1 = (Wd S L F16 G h) ∧
       Q (none) (Wd S L F16 G h))))))
  else
  (if (F1 284 4) = 3 then
   C58_0  (Wd S L F1 G h) (fun v w1 => ∃ (F18 : Nat → Nat → Int), v = none ∧ w1 = (Wd S L F18 G h) ∧
    C62_0  (Wd S L F18 G h) (fun v w1 => ∃ (F19 : Nat → Nat → Int), v = none ∧ w1 = (Wd S L F19 G h) ∧
     (R32 (F19 284 2) ∧
     R32 (F19 284 1) ∧
     (if (F19 284 1) ≤ (F19 284 2) then
      Q (none) (Wd S L F19 G h)
     else
      C64_0 (F19 284 2) (Wd S L F19 G h) (fun v w1 => ∃ (F23 : Nat → Nat → Int), v = none ∧ w1 = (Wd S L F23 G h) ∧
       Q (none) (Wd S L F23 G h))))))
  else
  (if (F1 284 4) = 4 then
   C60_0 0 3 (Wd S L F1 G h) (fun v w1 => ∃ (v25 : Int) (F26 : Nat → Nat → Int), v = some (vi v25) ∧ w1 = (Wd S L F26 G h) ∧
    C62_0  (Wd S L (am_up F26 284 8 v25) G h) (fun v w1 => ∃ (F27 : Nat → Nat → Int), v = none ∧ w1 = (Wd S L F27 G h) ∧
     (R32 (F27 284 2) ∧
     R32 (F27 284 1) ∧
     (if (F27 284 1) ≤ (F27 284 2) then
      Q (none) (Wd S L F27 G h)
     else
      C64_0 (F27 284 2) (Wd S L F27 G h) (fun v w1 => ∃ (F31 : Nat → Nat → Int), v = none ∧ w1 = (Wd S L F31 G h) ∧
       Q (none) (Wd S L F31 G h))))))
  else
  C62_0  (Wd S L F1 G h) (fun v w1 => ∃ (F32 : Nat → Nat → Int), v = none ∧ w1 = (Wd S L F32 G h) ∧
   (R32 (F32 284 2) ∧
   R32 (F32 284 1) ∧
   (if (F32 284 1) ≤ (F32 284 2) then
    Q (none) (Wd S L F32 G h)
   else
    C64_0 (F32 284 2) (Wd S L F32 G h) (fun v w1 => ∃ (F36 : Nat → Nat → Int), v = none ∧ w1 = (Wd S L F36 G h) ∧
     Q (none) (Wd S L F36 G h)))))))))))) : C50_0  (Wd S L F G h) Q := by
  refine pt50 (s' := (16, [some (vr 284)], [vr 284], (Wd S L (am_up (am_up (am_up F 284 2 0) 284 3 (-1)) 284 7 0) G h))) (by decide) [0, 0, 0, 0, 0, 0, 0, 0, 0, 0] rfl ⟨⟨⟨trivial, ⟨Nat.le_of_ble_eq_true rfl, rfl, fun h => by cases h⟩⟩, ⟨Nat.le_of_ble_eq_true rfl, rfl, fun h => by cases h⟩⟩, ⟨Nat.le_of_ble_eq_true rfl, rfl, fun h => by cases h⟩⟩ ?_
  refine wp.cl am_m50 rfl am_m51 8 [vr 284] [] rfl (Nat.le_of_ble_eq_true rfl) ⟨(Nat.le_of_ble_eq_true rfl), (Nat.le_of_ble_eq_true rfl)⟩ rfl (Nat.le_of_ble_eq_true rfl) rfl (Nat.le_of_ble_eq_true rfl) (Nat.le_of_ble_eq_true rfl) ⟨_, _, rfl, Nat.le_of_ble_eq_true rfl, rfl⟩ ?_
  refine wp.mono H ?_
  rintro v w1 ⟨F1, rfl, rfl, H⟩
  show wp 10 50 (19, [some (vr 284)], [], (Wd S L F1 G h)) _
  obtain ⟨g2, H⟩ := H
  refine pt50 (s' := (23, [some (vr 284)], [vi (F1 284 4)], (Wd S L F1 G h))) (by decide) [0, 0] rfl ⟨trivial, ⟨Nat.le_of_ble_eq_true rfl, rfl⟩⟩ ?_
  by_cases c3 : (F1 284 4) = 1
  · rw [if_pos c3] at H
    refine pt50 (s' := (53, [some (vr 284)], [vr 284], (Wd S L F1 G h))) (by decide) [1, 0] rfl ⟨trivial, ⟨g2, (by omega : ¬ (F1 284 4) < 1), (by omega : ¬ 4 < (F1 284 4)), c3⟩⟩ ?_
    refine wp.cl am_m50 rfl am_m54 9 [vr 284] [] rfl (Nat.le_of_ble_eq_true rfl) ⟨(Nat.le_of_ble_eq_true rfl), (Nat.le_of_ble_eq_true rfl)⟩ rfl (Nat.le_of_ble_eq_true rfl) rfl (Nat.le_of_ble_eq_true rfl) (Nat.le_of_ble_eq_true rfl) ⟨_, _, rfl, Nat.le_of_ble_eq_true rfl, rfl⟩ ?_
    refine wp.mono H ?_
    rintro v w1 ⟨F4, rfl, rfl, H⟩
    show wp 10 50 (56, [some (vr 284)], [], (Wd S L F4 G h)) _
    refine pt50 (s' := (87, [some (vr 284)], [vr 284], (Wd S L F4 G h))) (by decide) [0, 0] rfl trivial ?_
    refine wp.cl am_m50 rfl am_m62 5 [vr 284] [] rfl (Nat.le_of_ble_eq_true rfl) ⟨(Nat.le_of_ble_eq_true rfl), (Nat.le_of_ble_eq_true rfl)⟩ rfl (Nat.le_of_ble_eq_true rfl) rfl (Nat.le_of_ble_eq_true rfl) (Nat.le_of_ble_eq_true rfl) ⟨_, _, rfl, Nat.le_of_ble_eq_true rfl, rfl⟩ ?_
    refine wp.mono H ?_
    rintro v w1 ⟨F5, rfl, rfl, H⟩
    show wp 10 50 (90, [some (vr 284)], [], (Wd S L F5 G h)) _
    obtain ⟨g6, H⟩ := H
    obtain ⟨g7, H⟩ := H
    refine pt50 (s' := (98, [some (vr 284)], [vi (F5 284 1), vi (F5 284 2)], (Wd S L F5 G h))) (by decide) [0, 0, 0, 0] rfl ⟨⟨trivial, ⟨Nat.le_of_ble_eq_true rfl, rfl⟩⟩, ⟨Nat.le_of_ble_eq_true rfl, rfl⟩⟩ ?_
    by_cases c8 : (F5 284 1) ≤ (F5 284 2)
    · rw [if_pos c8] at H
      refine pt50 (s' := (109, [some (vr 284)], [], (Wd S L F5 G h))) (by decide) [1] rfl ⟨trivial, ⟨⟨g6, g7⟩, c8⟩⟩ ?_
      exact wp.fin (v := none) (by decide) am_m50 rfl ⟨rfl, rfl, rfl⟩ H
    · rw [if_neg c8] at H
      refine pt50 (s' := (106, [some (vr 284)], [vi (F5 284 2), vr 284], (Wd S L F5 G h))) (by decide) [0, 0, 0, 0] rfl ⟨⟨trivial, ⟨⟨g6, g7⟩, c8⟩⟩, ⟨Nat.le_of_ble_eq_true rfl, rfl⟩⟩ ?_
      refine wp.cl am_m50 rfl am_m64 5 [vr 284, vi (F5 284 2)] [] rfl (Nat.le_of_ble_eq_true rfl) ⟨(Nat.le_of_ble_eq_true rfl), (Nat.le_of_ble_eq_true rfl)⟩ rfl (Nat.le_of_ble_eq_true rfl) rfl (Nat.le_of_ble_eq_true rfl) (Nat.le_of_ble_eq_true rfl) ⟨_, _, rfl, Nat.le_of_ble_eq_true rfl, rfl⟩ ?_
      refine wp.mono H ?_
      rintro v w1 ⟨F9, rfl, rfl, H⟩
      show wp 10 50 (109, [some (vr 284)], [], (Wd S L F9 G h)) _
      exact wp.fin (v := none) (by decide) am_m50 rfl ⟨rfl, rfl, rfl⟩ H
  · rw [if_neg c3] at H
    by_cases c10 : (F1 284 4) = 2
    · rw [if_pos c10] at H
      refine pt50 (s' := (60, [some (vr 284)], [vr 284], (Wd S L F1 G h))) (by decide) [2, 0] rfl ⟨trivial, ⟨g2, (by omega : ¬ (F1 284 4) < 1), (by omega : ¬ 4 < (F1 284 4)), c10⟩⟩ ?_
      refine wp.cl am_m50 rfl am_m57 7 [vr 284] [] rfl (Nat.le_of_ble_eq_true rfl) ⟨(Nat.le_of_ble_eq_true rfl), (Nat.le_of_ble_eq_true rfl)⟩ rfl (Nat.le_of_ble_eq_true rfl) rfl (Nat.le_of_ble_eq_true rfl) (Nat.le_of_ble_eq_true rfl) ⟨_, _, rfl, Nat.le_of_ble_eq_true rfl, rfl⟩ ?_
      refine wp.mono H ?_
      rintro v w1 ⟨F11, rfl, rfl, H⟩
      show wp 10 50 (63, [some (vr 284)], [], (Wd S L F11 G h)) _
      refine pt50 (s' := (87, [some (vr 284)], [vr 284], (Wd S L F11 G h))) (by decide) [0, 0] rfl trivial ?_
      refine wp.cl am_m50 rfl am_m62 5 [vr 284] [] rfl (Nat.le_of_ble_eq_true rfl) ⟨(Nat.le_of_ble_eq_true rfl), (Nat.le_of_ble_eq_true rfl)⟩ rfl (Nat.le_of_ble_eq_true rfl) rfl (Nat.le_of_ble_eq_true rfl) (Nat.le_of_ble_eq_true rfl) ⟨_, _, rfl, Nat.le_of_ble_eq_true rfl, rfl⟩ ?_
      refine wp.mono H ?_
      rintro v w1 ⟨F12, rfl, rfl, H⟩
      show wp 10 50 (90, [some (vr 284)], [], (Wd S L F12 G h)) _
      obtain ⟨g13, H⟩ := H
      obtain ⟨g14, H⟩ := H
      refine pt50 (s' := (98, [some (vr 284)], [vi (F12 284 1), vi (F12 284 2)], (Wd S L F12 G h))) (by decide) [0, 0, 0, 0] rfl ⟨⟨trivial, ⟨Nat.le_of_ble_eq_true rfl, rfl⟩⟩, ⟨Nat.le_of_ble_eq_true rfl, rfl⟩⟩ ?_
      by_cases c15 : (F12 284 1) ≤ (F12 284 2)
      · rw [if_pos c15] at H
        refine pt50 (s' := (109, [some (vr 284)], [], (Wd S L F12 G h))) (by decide) [1] rfl ⟨trivial, ⟨⟨g13, g14⟩, c15⟩⟩ ?_
        exact wp.fin (v := none) (by decide) am_m50 rfl ⟨rfl, rfl, rfl⟩ H
      · rw [if_neg c15] at H
        refine pt50 (s' := (106, [some (vr 284)], [vi (F12 284 2), vr 284], (Wd S L F12 G h))) (by decide) [0, 0, 0, 0] rfl ⟨⟨trivial, ⟨⟨g13, g14⟩, c15⟩⟩, ⟨Nat.le_of_ble_eq_true rfl, rfl⟩⟩ ?_
        refine wp.cl am_m50 rfl am_m64 5 [vr 284, vi (F12 284 2)] [] rfl (Nat.le_of_ble_eq_true rfl) ⟨(Nat.le_of_ble_eq_true rfl), (Nat.le_of_ble_eq_true rfl)⟩ rfl (Nat.le_of_ble_eq_true rfl) rfl (Nat.le_of_ble_eq_true rfl) (Nat.le_of_ble_eq_true rfl) ⟨_, _, rfl, Nat.le_of_ble_eq_true rfl, rfl⟩ ?_
        refine wp.mono H ?_
        rintro v w1 ⟨F16, rfl, rfl, H⟩
        show wp 10 50 (109, [some (vr 284)], [], (Wd S L F16 G h)) _
        exact wp.fin (v := none) (by decide) am_m50 rfl ⟨rfl, rfl, rfl⟩ H
    · rw [if_neg c10] at H
      by_cases c17 : (F1 284 4) = 3
      · rw [if_pos c17] at H
        refine pt50 (s' := (67, [some (vr 284)], [vr 284], (Wd S L F1 G h))) (by decide) [3, 0] rfl ⟨trivial, ⟨g2, (by omega : ¬ (F1 284 4) < 1), (by omega : ¬ 4 < (F1 284 4)), c17⟩⟩ ?_
        refine wp.cl am_m50 rfl am_m58 8 [vr 284] [] rfl (Nat.le_of_ble_eq_true rfl) ⟨(Nat.le_of_ble_eq_true rfl), (Nat.le_of_ble_eq_true rfl)⟩ rfl (Nat.le_of_ble_eq_true rfl) rfl (Nat.le_of_ble_eq_true rfl) (Nat.le_of_ble_eq_true rfl) ⟨_, _, rfl, Nat.le_of_ble_eq_true rfl, rfl⟩ ?_
        refine wp.mono H ?_
        rintro v w1 ⟨F18, rfl, rfl, H⟩
        show wp 10 50 (70, [some (vr 284)], [], (Wd S L F18 G h)) _
        refine pt50 (s' := (87, [some (vr 284)], [vr 284], (Wd S L F18 G h))) (by decide) [0, 0] rfl trivial ?_
        refine wp.cl am_m50 rfl am_m62 5 [vr 284] [] rfl (Nat.le_of_ble_eq_true rfl) ⟨(Nat.le_of_ble_eq_true rfl), (Nat.le_of_ble_eq_true rfl)⟩ rfl (Nat.le_of_ble_eq_true rfl) rfl (Nat.le_of_ble_eq_true rfl) (Nat.le_of_ble_eq_true rfl) ⟨_, _, rfl, Nat.le_of_ble_eq_true rfl, rfl⟩ ?_
        refine wp.mono H ?_
        rintro v w1 ⟨F19, rfl, rfl, H⟩
        show wp 10 50 (90, [some (vr 284)], [], (Wd S L F19 G h)) _
        obtain ⟨g20, H⟩ := H
        obtain ⟨g21, H⟩ := H
        refine pt50 (s' := (98, [some (vr 284)], [vi (F19 284 1), vi (F19 284 2)], (Wd S L F19 G h))) (by decide) [0, 0, 0, 0] rfl ⟨⟨trivial, ⟨Nat.le_of_ble_eq_true rfl, rfl⟩⟩, ⟨Nat.le_of_ble_eq_true rfl, rfl⟩⟩ ?_
        by_cases c22 : (F19 284 1) ≤ (F19 284 2)
        · rw [if_pos c22] at H
          refine pt50 (s' := (109, [some (vr 284)], [], (Wd S L F19 G h))) (by decide) [1] rfl ⟨trivial, ⟨⟨g20, g21⟩, c22⟩⟩ ?_
          exact wp.fin (v := none) (by decide) am_m50 rfl ⟨rfl, rfl, rfl⟩ H
        · rw [if_neg c22] at H
          refine pt50 (s' := (106, [some (vr 284)], [vi (F19 284 2), vr 284], (Wd S L F19 G h))) (by decide) [0, 0, 0, 0] rfl ⟨⟨trivial, ⟨⟨g20, g21⟩, c22⟩⟩, ⟨Nat.le_of_ble_eq_true rfl, rfl⟩⟩ ?_
          refine wp.cl am_m50 rfl am_m64 5 [vr 284, vi (F19 284 2)] [] rfl (Nat.le_of_ble_eq_true rfl) ⟨(Nat.le_of_ble_eq_true rfl), (Nat.le_of_ble_eq_true rfl)⟩ rfl (Nat.le_of_ble_eq_true rfl) rfl (Nat.le_of_ble_eq_true rfl) (Nat.le_of_ble_eq_true rfl) ⟨_, _, rfl, Nat.le_of_ble_eq_true rfl, rfl⟩ ?_
          refine wp.mono H ?_
          rintro v w1 ⟨F23, rfl, rfl, H⟩
          show wp 10 50 (109, [some (vr 284)], [], (Wd S L F23 G h)) _
          exact wp.fin (v := none) (by decide) am_m50 rfl ⟨rfl, rfl, rfl⟩ H
      · rw [if_neg c17] at H
        by_cases c24 : (F1 284 4) = 4
        · rw [if_pos c24] at H
          refine pt50 (s' := (77, [some (vr 284)], [vi 3, vi 0, vr 284, vr 284], (Wd S L F1 G h))) (by decide) [4, 0, 0, 0, 0] rfl ⟨trivial, ⟨g2, (by omega : ¬ (F1 284 4) < 1), (by omega : ¬ 4 < (F1 284 4)), c24⟩⟩ ?_
          refine wp.cl am_m50 rfl am_m60 6 [vr 284, vi 0, vi 3] [vr 284] rfl (Nat.le_of_ble_eq_true rfl) ⟨(Nat.le_of_ble_eq_true rfl), (Nat.le_of_ble_eq_true rfl)⟩ rfl (Nat.le_of_ble_eq_true rfl) rfl (Nat.le_of_ble_eq_true rfl) (Nat.le_of_ble_eq_true rfl) ⟨_, _, rfl, Nat.le_of_ble_eq_true rfl, rfl⟩ ?_
          refine wp.mono H ?_
          rintro v w1 ⟨v25, F26, rfl, rfl, H⟩
          show wp 10 50 (80, [some (vr 284)], [vi v25, vr 284], (Wd S L F26 G h)) _
          refine pt50 (s' := (87, [some (vr 284)], [vr 284], (Wd S L (am_up F26 284 8 v25) G h))) (by decide) [0, 0, 0] rfl ⟨trivial, ⟨Nat.le_of_ble_eq_true rfl, rfl, fun h => by cases h⟩⟩ ?_
          refine wp.cl am_m50 rfl am_m62 5 [vr 284] [] rfl (Nat.le_of_ble_eq_true rfl) ⟨(Nat.le_of_ble_eq_true rfl), (Nat.le_of_ble_eq_true rfl)⟩ rfl (Nat.le_of_ble_eq_true rfl) rfl (Nat.le_of_ble_eq_true rfl) (Nat.le_of_ble_eq_true rfl) ⟨_, _, rfl, Nat.le_of_ble_eq_true rfl, rfl⟩ ?_
          refine wp.mono H ?_
          rintro v w1 ⟨F27, rfl, rfl, H⟩
          show wp 10 50 (90, [some (vr 284)], [], (Wd S L F27 G h)) _
          obtain ⟨g28, H⟩ := H
          obtain ⟨g29, H⟩ := H
          refine pt50 (s' := (98, [some (vr 284)], [vi (F27 284 1), vi (F27 284 2)], (Wd S L F27 G h))) (by decide) [0, 0, 0, 0] rfl ⟨⟨trivial, ⟨Nat.le_of_ble_eq_true rfl, rfl⟩⟩, ⟨Nat.le_of_ble_eq_true rfl, rfl⟩⟩ ?_
          by_cases c30 : (F27 284 1) ≤ (F27 284 2)
          · rw [if_pos c30] at H
            refine pt50 (s' := (109, [some (vr 284)], [], (Wd S L F27 G h))) (by decide) [1] rfl ⟨trivial, ⟨⟨g28, g29⟩, c30⟩⟩ ?_
            exact wp.fin (v := none) (by decide) am_m50 rfl ⟨rfl, rfl, rfl⟩ H
          · rw [if_neg c30] at H
            refine pt50 (s' := (106, [some (vr 284)], [vi (F27 284 2), vr 284], (Wd S L F27 G h))) (by decide) [0, 0, 0, 0] rfl ⟨⟨trivial, ⟨⟨g28, g29⟩, c30⟩⟩, ⟨Nat.le_of_ble_eq_true rfl, rfl⟩⟩ ?_
            refine wp.cl am_m50 rfl am_m64 5 [vr 284, vi (F27 284 2)] [] rfl (Nat.le_of_ble_eq_true rfl) ⟨(Nat.le_of_ble_eq_true rfl), (Nat.le_of_ble_eq_true rfl)⟩ rfl (Nat.le_of_ble_eq_true rfl) rfl (Nat.le_of_ble_eq_true rfl) (Nat.le_of_ble_eq_true rfl) ⟨_, _, rfl, Nat.le_of_ble_eq_true rfl, rfl⟩ ?_
            refine wp.mono H ?_
            rintro v w1 ⟨F31, rfl, rfl, H⟩
            show wp 10 50 (109, [some (vr 284)], [], (Wd S L F31 G h)) _
            exact wp.fin (v := none) (by decide) am_m50 rfl ⟨rfl, rfl, rfl⟩ H
        · rw [if_neg c24] at H
          refine pt50 (s' := (87, [some (vr 284)], [vr 284], (Wd S L F1 G h))) (by decide) [0, 0] rfl ⟨trivial, ⟨g2, (by omega : (F1 284 4) < 1 ∨ 4 < (F1 284 4))⟩⟩ ?_
          refine wp.cl am_m50 rfl am_m62 5 [vr 284] [] rfl (Nat.le_of_ble_eq_true rfl) ⟨(Nat.le_of_ble_eq_true rfl), (Nat.le_of_ble_eq_true rfl)⟩ rfl (Nat.le_of_ble_eq_true rfl) rfl (Nat.le_of_ble_eq_true rfl) (Nat.le_of_ble_eq_true rfl) ⟨_, _, rfl, Nat.le_of_ble_eq_true rfl, rfl⟩ ?_
          refine wp.mono H ?_
          rintro v w1 ⟨F32, rfl, rfl, H⟩
          show wp 10 50 (90, [some (vr 284)], [], (Wd S L F32 G h)) _
          obtain ⟨g33, H⟩ := H
          obtain ⟨g34, H⟩ := H
          refine pt50 (s' := (98, [some (vr 284)], [vi (F32 284 1), vi (F32 284 2)], (Wd S L F32 G h))) (by decide) [0, 0, 0, 0] rfl ⟨⟨trivial, ⟨Nat.le_of_ble_eq_true rfl, rfl⟩⟩, ⟨Nat.le_of_ble_eq_true rfl, rfl⟩⟩ ?_
          by_cases c35 : (F32 284 1) ≤ (F32 284 2)
          · rw [if_pos c35] at H
            refine pt50 (s' := (109, [some (vr 284)], [], (Wd S L F32 G h))) (by decide) [1] rfl ⟨trivial, ⟨⟨g33, g34⟩, c35⟩⟩ ?_
            exact wp.fin (v := none) (by decide) am_m50 rfl ⟨rfl, rfl, rfl⟩ H
          · rw [if_neg c35] at H
            refine pt50 (s' := (106, [some (vr 284)], [vi (F32 284 2), vr 284], (Wd S L F32 G h))) (by decide) [0, 0, 0, 0] rfl ⟨⟨trivial, ⟨⟨g33, g34⟩, c35⟩⟩, ⟨Nat.le_of_ble_eq_true rfl, rfl⟩⟩ ?_
            refine wp.cl am_m50 rfl am_m64 5 [vr 284, vi (F32 284 2)] [] rfl (Nat.le_of_ble_eq_true rfl) ⟨(Nat.le_of_ble_eq_true rfl), (Nat.le_of_ble_eq_true rfl)⟩ rfl (Nat.le_of_ble_eq_true rfl) rfl (Nat.le_of_ble_eq_true rfl) (Nat.le_of_ble_eq_true rfl) ⟨_, _, rfl, Nat.le_of_ble_eq_true rfl, rfl⟩ ?_
            refine wp.mono H ?_
            rintro v w1 ⟨F36, rfl, rfl, H⟩
            show wp 10 50 (109, [some (vr 284)], [], (Wd S L F36 G h)) _
            exact wp.fin (v := none) (by decide) am_m50 rfl ⟨rfl, rfl, rfl⟩ H
set_option maxRecDepth 100000 in
set_option maxHeartbeats 4000000 in
theorem T51_0 {S L : Nat} {F G : Nat → Nat → Int} {h : Nat → Nat → Option Nat} (hh : RfH h)   {Q : Option V2 → W2 → Prop}
    (H : C62_0  (Wd S L F G h) (fun v w1 => ∃ (F1 : Nat → Nat → Int), v = none ∧ w1 = (Wd S L F1 G h) ∧
  C51_9 (F1 284 2) (Wd S L F1 G h) Q)) : C51_0  (Wd S L F G h) Q := by
  refine pt51 (s' := (1, [some (vr 284), none], [vr 284], (Wd S L F G h))) (by decide) [0] rfl trivial ?_
  refine wp.cl am_m51 rfl am_m62 5 [vr 284] [] rfl (Nat.le_of_ble_eq_true rfl) ⟨(Nat.le_of_ble_eq_true rfl), (Nat.le_of_ble_eq_true rfl)⟩ rfl (Nat.le_of_ble_eq_true rfl) rfl (Nat.le_of_ble_eq_true rfl) (Nat.le_of_ble_eq_true rfl) ⟨_, _, rfl, Nat.le_of_ble_eq_true rfl, rfl⟩ ?_
  refine wp.mono H ?_
  rintro v w1 ⟨F1, rfl, rfl, H⟩
  show wp 8 51 (4, [some (vr 284), none], [], (Wd S L F1 G h)) _
  refine pt51 (s' := (9, [some (vr 284), some (vi (F1 284 2))], [], (Wd S L F1 G h))) (by decide) [0, 0, 0] rfl ⟨trivial, ⟨Nat.le_of_ble_eq_true rfl, rfl⟩⟩ ?_
  exact wp.weak (a := [some (vr 284), some (vi (F1 284 2))]) ⟨rfl, rfl, trivial⟩ H
set_option maxRecDepth 100000 in
set_option maxHeartbeats 4000000 in
theorem T51_9 {S L : Nat} {F G : Nat → Nat → Int} {h : Nat → Nat → Option Nat} (hh : RfH h) {x1 : Int}  {Q : Option V2 → W2 → Prop}
    (H : (R32 (F 284 2) ∧
 R32 (F 284 1) ∧
 (if (F 284 1) ≤ (F 284 2) then
  C52_0 x1 (Wd S L F G h) (fun v w1 => ∃ (v4 : Int), v = some (vi v4) ∧ w1 = (Wd S L F G h) ∧
   (R32 v4 ∧
   (if v4 = 0 then
    C64_0 x1 (Wd S L (am_up F 284 4 v4) G h) (fun v w1 => ∃ (F7 : Nat → Nat → Int), v = none ∧ w1 = (Wd S L F7 G h) ∧
     Q (none) (Wd S L F7 G h))
   else
    Q (none) (Wd S L (am_up F 284 4 v4) G h))))
 else
  C63_0 97 122 (Wd S L F G h) (fun v w1 => ∃ (v8 : Int), v = some (vi v8) ∧ w1 = (Wd S L F G h) ∧
   (R32 v8 ∧
   (if v8 = 0 then
    C52_0 x1 (Wd S L F G h) (fun v w1 => ∃ (v11 : Int), v = some (vi v11) ∧ w1 = (Wd S L F G h) ∧
     (R32 v11 ∧
     (if v11 = 0 then
      C64_0 x1 (Wd S L (am_up F 284 4 v11) G h) (fun v w1 => ∃ (F14 : Nat → Nat → Int), v = none ∧ w1 = (Wd S L F14 G h) ∧
       Q (none) (Wd S L F14 G h))
     else
      Q (none) (Wd S L (am_up F 284 4 v11) G h))))
   else
    C51_9 x1 (Wd S L (am_up F 284 2 ((F 284 2) + 1)) G h) Q)))))) : C51_9 x1 (Wd S L F G h) Q := by
  obtain ⟨g1, H⟩ := H
  obtain ⟨g2, H⟩ := H
  refine pt51 (s' := (17, [some (vr 284), some (vi x1)], [vi (F 284 1), vi (F 284 2)], (Wd S L F G h))) (by decide) [0, 0, 0, 0] rfl ⟨⟨trivial, ⟨Nat.le_of_ble_eq_true rfl, rfl⟩⟩, ⟨Nat.le_of_ble_eq_true rfl, rfl⟩⟩ ?_
  by_cases c3 : (F 284 1) ≤ (F 284 2)
  · rw [if_pos c3] at H
    refine pt51 (s' := (47, [some (vr 284), some (vi x1)], [vi x1, vr 284, vr 284], (Wd S L F G h))) (by decide) [1, 0, 0, 0] rfl ⟨trivial, ⟨⟨g1, g2⟩, c3⟩⟩ ?_
    refine wp.cl am_m51 rfl am_m52 7 [vr 284, vi x1] [vr 284] rfl (Nat.le_of_ble_eq_true rfl) ⟨(Nat.le_of_ble_eq_true rfl), (Nat.le_of_ble_eq_true rfl)⟩ rfl (Nat.le_of_ble_eq_true rfl) rfl (Nat.le_of_ble_eq_true rfl) (Nat.le_of_ble_eq_true rfl) ⟨_, _, rfl, Nat.le_of_ble_eq_true rfl, rfl⟩ ?_
    refine wp.mono H ?_
    rintro v w1 ⟨v4, rfl, rfl, H⟩
    show wp 8 51 (50, [some (vr 284), some (vi x1)], [vi v4, vr 284], (Wd S L F G h)) _
    obtain ⟨g5, H⟩ := H
    refine pt51 (s' := (57, [some (vr 284), some (vi x1)], [vi v4], (Wd S L (am_up F 284 4 v4) G h))) (by decide) [0, 0, 0] rfl ⟨⟨trivial, ⟨Nat.le_of_ble_eq_true rfl, rfl, fun h => by cases h⟩⟩, ⟨Nat.le_of_ble_eq_true rfl, rfl⟩⟩ ?_
    by_cases c6 : v4 = 0
    · rw [if_pos c6] at H
      refine pt51 (s' := (62, [some (vr 284), some (vi x1)], [vi x1, vr 284], (Wd S L (am_up F 284 4 v4) G h))) (by decide) [0, 0, 0] rfl ⟨trivial, ⟨g5, c6⟩⟩ ?_
      refine wp.cl am_m51 rfl am_m64 5 [vr 284, vi x1] [] rfl (Nat.le_of_ble_eq_true rfl) ⟨(Nat.le_of_ble_eq_true rfl), (Nat.le_of_ble_eq_true rfl)⟩ rfl (Nat.le_of_ble_eq_true rfl) rfl (Nat.le_of_ble_eq_true rfl) (Nat.le_of_ble_eq_true rfl) ⟨_, _, rfl, Nat.le_of_ble_eq_true rfl, rfl⟩ ?_
      refine wp.mono H ?_
      rintro v w1 ⟨F7, rfl, rfl, H⟩
      show wp 8 51 (65, [some (vr 284), some (vi x1)], [], (Wd S L F7 G h)) _
      exact wp.fin (v := none) (by decide) am_m51 rfl ⟨rfl, rfl, rfl⟩ H
    · rw [if_neg c6] at H
      refine pt51 (s' := (65, [some (vr 284), some (vi x1)], [], (Wd S L (am_up F 284 4 v4) G h))) (by decide) [1] rfl ⟨trivial, ⟨g5, c6⟩⟩ ?_
      exact wp.fin (v := none) (by decide) am_m51 rfl ⟨rfl, rfl, rfl⟩ H
  · rw [if_neg c3] at H
    refine pt51 (s' := (25, [some (vr 284), some (vi x1)], [vi 122, vi 97, vr 284], (Wd S L F G h))) (by decide) [0, 0, 0, 0] rfl ⟨trivial, ⟨⟨g1, g2⟩, c3⟩⟩ ?_
    refine wp.cl am_m51 rfl am_m63 5 [vr 284, vi 97, vi 122] [] rfl (Nat.le_of_ble_eq_true rfl) ⟨(Nat.le_of_ble_eq_true rfl), (Nat.le_of_ble_eq_true rfl)⟩ rfl (Nat.le_of_ble_eq_true rfl) rfl (Nat.le_of_ble_eq_true rfl) (Nat.le_of_ble_eq_true rfl) ⟨_, _, rfl, Nat.le_of_ble_eq_true rfl, rfl⟩ ?_
    refine wp.mono H ?_
    rintro v w1 ⟨v8, rfl, rfl, H⟩
    show wp 8 51 (28, [some (vr 284), some (vi x1)], [vi v8], (Wd S L F G h)) _
    obtain ⟨g9, H⟩ := H
    by_cases c10 : v8 = 0
    · rw [if_pos c10] at H
      refine pt51 (s' := (47, [some (vr 284), some (vi x1)], [vi x1, vr 284, vr 284], (Wd S L F G h))) (by decide) [1, 0, 0, 0] rfl ⟨trivial, ⟨g9, c10⟩⟩ ?_
      refine wp.cl am_m51 rfl am_m52 7 [vr 284, vi x1] [vr 284] rfl (Nat.le_of_ble_eq_true rfl) ⟨(Nat.le_of_ble_eq_true rfl), (Nat.le_of_ble_eq_true rfl)⟩ rfl (Nat.le_of_ble_eq_true rfl) rfl (Nat.le_of_ble_eq_true rfl) (Nat.le_of_ble_eq_true rfl) ⟨_, _, rfl, Nat.le_of_ble_eq_true rfl, rfl⟩ ?_
      refine wp.mono H ?_
      rintro v w1 ⟨v11, rfl, rfl, H⟩
      show wp 8 51 (50, [some (vr 284), some (vi x1)], [vi v11, vr 284], (Wd S L F G h)) _
      obtain ⟨g12, H⟩ := H
      refine pt51 (s' := (57, [some (vr 284), some (vi x1)], [vi v11], (Wd S L (am_up F 284 4 v11) G h))) (by decide) [0, 0, 0] rfl ⟨⟨trivial, ⟨Nat.le_of_ble_eq_true rfl, rfl, fun h => by cases h⟩⟩, ⟨Nat.le_of_ble_eq_true rfl, rfl⟩⟩ ?_
      by_cases c13 : v11 = 0
      · rw [if_pos c13] at H
        refine pt51 (s' := (62, [some (vr 284), some (vi x1)], [vi x1, vr 284], (Wd S L (am_up F 284 4 v11) G h))) (by decide) [0, 0, 0] rfl ⟨trivial, ⟨g12, c13⟩⟩ ?_
        refine wp.cl am_m51 rfl am_m64 5 [vr 284, vi x1] [] rfl (Nat.le_of_ble_eq_true rfl) ⟨(Nat.le_of_ble_eq_true rfl), (Nat.le_of_ble_eq_true rfl)⟩ rfl (Nat.le_of_ble_eq_true rfl) rfl (Nat.le_of_ble_eq_true rfl) (Nat.le_of_ble_eq_true rfl) ⟨_, _, rfl, Nat.le_of_ble_eq_true rfl, rfl⟩ ?_
        refine wp.mono H ?_
        rintro v w1 ⟨F14, rfl, rfl, H⟩
        show wp 8 51 (65, [some (vr 284), some (vi x1)], [], (Wd S L F14 G h)) _
        exact wp.fin (v := none) (by decide) am_m51 rfl ⟨rfl, rfl, rfl⟩ H
      · rw [if_neg c13] at H
        refine pt51 (s' := (65, [some (vr 284), some (vi x1)], [], (Wd S L (am_up F 284 4 v11) G h))) (by decide) [1] rfl ⟨trivial, ⟨g12, c13⟩⟩ ?_
        exact wp.fin (v := none) (by decide) am_m51 rfl ⟨rfl, rfl, rfl⟩ H
    · rw [if_neg c10] at H
      refine pt51 (s' := (9, [some (vr 284), some (vi x1)], [], (Wd S L (am_up F 284 2 ((F 284 2) + 1)) G h))) (by decide) [0, 0, 0, 0, 0, 0, 0, 0] rfl ⟨⟨⟨trivial, ⟨g9, c10⟩⟩, ⟨Nat.le_of_ble_eq_true rfl, rfl⟩⟩, ⟨Nat.le_of_ble_eq_true rfl, rfl, fun h => by cases h⟩⟩ ?_
      exact wp.weak (a := [some (vr 284), some (vi x1)]) ⟨rfl, rfl, trivial⟩ H
set_option maxRecDepth 100000 in
set_option maxHeartbeats 4000000 in
theorem T52_0 {S L : Nat} {F G : Nat → Nat → Int} {h : Nat → Nat → Option Nat} (hh : RfH h) {a1 : Int}  {Q : Option V2 → W2 → Prop}
    (H : C53_0 a1 (Wd S L F G h) (fun v w1 => ∃ (v1 : Int), v = some (vi v1) ∧ w1 = (Wd S L F G h) ∧
  (R32 v1 ∧
  (if v1 = 0 then
   C53b_0 a1 (Wd S L F G h) (fun v w1 => ∃ (v4 : Int), v = some (vi v4) ∧ w1 = (Wd S L F G h) ∧
    (R32 v4 ∧
    (if v4 = 0 then
     C53c_0 a1 (Wd S L F G h) (fun v w1 => ∃ (v7 : Int), v = some (vi v7) ∧ w1 = (Wd S L F G h) ∧
      (R32 v7 ∧
      (if v7 = 0 then
       C53d_0 a1 (Wd S L F G h) (fun v w1 => ∃ (v10 : Int), v = some (vi v10) ∧ w1 = (Wd S L F G h) ∧
        (R32 v10 ∧
        (if v10 = 0 then
         Q (some (vi 0)) (Wd S L F G h)
        else
         Q (some (vi 4)) (Wd S L F G h))))
      else
       Q (some (vi 3)) (Wd S L F G h))))
    else
     Q (some (vi 2)) (Wd S L F G h))))
  else
   Q (some (vi 1)) (Wd S L F G h))))) : C52_0 a1 (Wd S L F G h) Q := by
  refine pt52 (s' := (4, [some (vr 284), some (vi a1)], [vr 9990, vi a1, vr 284], (Wd S L F G h))) (by decide) [0, 0, 0] rfl trivial ?_
  refine wp.cl am_m52 rfl am_m53 6 [vr 284, vi a1, vr 9990] [] rfl (Nat.le_of_ble_eq_true rfl) ⟨(Nat.le_of_ble_eq_true rfl), (Nat.le_of_ble_eq_true rfl)⟩ rfl (Nat.le_of_ble_eq_true rfl) rfl (Nat.le_of_ble_eq_true rfl) (Nat.le_of_ble_eq_true rfl) ⟨_, _, rfl, Nat.le_of_ble_eq_true rfl, rfl⟩ ?_
  refine wp.mono H ?_
  rintro v w1 ⟨v1, rfl, rfl, H⟩
  show wp 7 52 (7, [some (vr 284), some (vi a1)], [vi v1], (Wd S L F G h)) _
  obtain ⟨g2, H⟩ := H
  by_cases c3 : v1 = 0
  · rw [if_pos c3] at H
    refine pt52 (s' := (16, [some (vr 284), some (vi a1)], [vr 9991, vi a1, vr 284], (Wd S L F G h))) (by decide) [1, 0, 0, 0] rfl ⟨trivial, ⟨g2, c3⟩⟩ ?_
    refine wp.cl am_m52 rfl am_m53 6 [vr 284, vi a1, vr 9991] [] rfl (Nat.le_of_ble_eq_true rfl) ⟨(Nat.le_of_ble_eq_true rfl), (Nat.le_of_ble_eq_true rfl)⟩ rfl (Nat.le_of_ble_eq_true rfl) rfl (Nat.le_of_ble_eq_true rfl) (Nat.le_of_ble_eq_true rfl) ⟨_, _, rfl, Nat.le_of_ble_eq_true rfl, rfl⟩ ?_
    refine wp.mono H ?_
    rintro v w1 ⟨v4, rfl, rfl, H⟩
    show wp 7 52 (19, [some (vr 284), some (vi a1)], [vi v4], (Wd S L F G h)) _
    obtain ⟨g5, H⟩ := H
    by_cases c6 : v4 = 0
    · rw [if_pos c6] at H
      refine pt52 (s' := (28, [some (vr 284), some (vi a1)], [vr 9992, vi a1, vr 284], (Wd S L F G h))) (by decide) [1, 0, 0, 0] rfl ⟨trivial, ⟨g5, c6⟩⟩ ?_
      refine wp.cl am_m52 rfl am_m53 6 [vr 284, vi a1, vr 9992] [] rfl (Nat.le_of_ble_eq_true rfl) ⟨(Nat.le_of_ble_eq_true rfl), (Nat.le_of_ble_eq_true rfl)⟩ rfl (Nat.le_of_ble_eq_true rfl) rfl (Nat.le_of_ble_eq_true rfl) (Nat.le_of_ble_eq_true rfl) ⟨_, _, rfl, Nat.le_of_ble_eq_true rfl, rfl⟩ ?_
      refine wp.mono H ?_
      rintro v w1 ⟨v7, rfl, rfl, H⟩
      show wp 7 52 (31, [some (vr 284), some (vi a1)], [vi v7], (Wd S L F G h)) _
      obtain ⟨g8, H⟩ := H
      by_cases c9 : v7 = 0
      · rw [if_pos c9] at H
        refine pt52 (s' := (40, [some (vr 284), some (vi a1)], [vr 9993, vi a1, vr 284], (Wd S L F G h))) (by decide) [1, 0, 0, 0] rfl ⟨trivial, ⟨g8, c9⟩⟩ ?_
        refine wp.cl am_m52 rfl am_m53 6 [vr 284, vi a1, vr 9993] [] rfl (Nat.le_of_ble_eq_true rfl) ⟨(Nat.le_of_ble_eq_true rfl), (Nat.le_of_ble_eq_true rfl)⟩ rfl (Nat.le_of_ble_eq_true rfl) rfl (Nat.le_of_ble_eq_true rfl) (Nat.le_of_ble_eq_true rfl) ⟨_, _, rfl, Nat.le_of_ble_eq_true rfl, rfl⟩ ?_
        refine wp.mono H ?_
        rintro v w1 ⟨v10, rfl, rfl, H⟩
        show wp 7 52 (43, [some (vr 284), some (vi a1)], [vi v10], (Wd S L F G h)) _
        obtain ⟨g11, H⟩ := H
        by_cases c12 : v10 = 0
        · rw [if_pos c12] at H
          refine pt52 (s' := (51, [some (vr 284), some (vi a1)], [vi 0], (Wd S L F G h))) (by decide) [1, 0] rfl ⟨trivial, ⟨g11, c12⟩⟩ ?_
          exact wp.fin (v := some (vi 0)) (by decide) am_m52 rfl ⟨_, rfl, Or.inl rfl, rfl⟩ H
        · rw [if_neg c12] at H
          refine pt52 (s' := (51, [some (vr 284), some (vi a1)], [vi 4], (Wd S L F G h))) (by decide) [0, 0, 0] rfl ⟨trivial, ⟨g11, c12⟩⟩ ?_
          exact wp.fin (v := some (vi 4)) (by decide) am_m52 rfl ⟨_, rfl, Or.inl rfl, rfl⟩ H
      · rw [if_neg c9] at H
        refine pt52 (s' := (35, [some (vr 284), some (vi a1)], [vi 3], (Wd S L F G h))) (by decide) [0, 0] rfl ⟨trivial, ⟨g8, c9⟩⟩ ?_
        exact wp.fin (v := some (vi 3)) (by decide) am_m52 rfl ⟨_, rfl, Or.inl rfl, rfl⟩ H
    · rw [if_neg c6] at H
      refine pt52 (s' := (23, [some (vr 284), some (vi a1)], [vi 2], (Wd S L F G h))) (by decide) [0, 0] rfl ⟨trivial, ⟨g5, c6⟩⟩ ?_
      exact wp.fin (v := some (vi 2)) (by decide) am_m52 rfl ⟨_, rfl, Or.inl rfl, rfl⟩ H
  · rw [if_neg c3] at H
    refine pt52 (s' := (11, [some (vr 284), some (vi a1)], [vi 1], (Wd S L F G h))) (by decide) [0, 0] rfl ⟨trivial, ⟨g2, c3⟩⟩ ?_
    exact wp.fin (v := some (vi 1)) (by decide) am_m52 rfl ⟨_, rfl, Or.inl rfl, rfl⟩ H
set_option maxRecDepth 100000 in
set_option maxHeartbeats 4000000 in
theorem T53_0 {S L : Nat} {F G : Nat → Nat → Int} {h : Nat → Nat → Option Nat} (hh : RfH h) {a1 : Int}  {Q : Option V2 → W2 → Prop}
    (H : (R32 ((F 284 2) - a1) ∧
 (if ((F 284 2) - a1) = 3 then
  C53_17 a1 0 (Wd S L F G h) Q
 else
  Q (some (vi 0)) (Wd S L F G h)))) : C53_0 a1 (Wd S L F G h) Q := by
  obtain ⟨g1, H⟩ := H
  refine pt53 (s' := (10, [some (vr 284), some (vi a1), some (vr 9990), none], [vi 3, vi ((F 284 2) - a1)], (Wd S L F G h))) (by decide) [0, 0, 0, 0, 0, 0] rfl ⟨⟨trivial, ⟨Nat.le_of_ble_eq_true rfl, rfl⟩⟩, ⟨Nat.le_of_ble_eq_true rfl, rfl, by decide⟩⟩ ?_
  by_cases c2 : ((F 284 2) - a1) = 3
  · rw [if_pos c2] at H
    refine pt53 (s' := (17, [some (vr 284), some (vi a1), some (vr 9990), some (vi 0)], [], (Wd S L F G h))) (by decide) [1, 0, 0] rfl ⟨trivial, ⟨⟨g1, (by decide : R32 3)⟩, c2⟩⟩ ?_
    exact wp.weak (a := [some (vr 284), some (vi a1), some (vr 9990), some (vi 0)]) ⟨rfl, rfl, rfl, rfl, trivial⟩ H
  · rw [if_neg c2] at H
    refine pt53 (s' := (14, [some (vr 284), some (vi a1), some (vr 9990), none], [vi 0], (Wd S L F G h))) (by decide) [0, 0] rfl ⟨trivial, ⟨⟨g1, (by decide : R32 3)⟩, c2⟩⟩ ?_
    exact wp.fin (v := some (vi 0)) (by decide) am_m53 rfl ⟨_, rfl, Or.inr ⟨rfl, Or.inl rfl⟩, rfl⟩ H
set_option maxRecDepth 100000 in
set_option maxHeartbeats 4000000 in
theorem T53_17 {S L : Nat} {F G : Nat → Nat → Int} {h : Nat → Nat → Option Nat} (hh : RfH h) {x1 : Int} {x3 : Int}  {Q : Option V2 → W2 → Prop}
    (H : (R32 x3 ∧
 (if 3 ≤ x3 then
  Q (some (vi 1)) (Wd S L F G h)
 else
  ((0 ≤ (x1 + x3) ∧ (x1 + x3) < 90) ∧
  (0 ≤ x3 ∧ x3 < 3) ∧
  R32 (F 285 (x1 + x3).toNat) ∧
  R32 ((y_str 0).getD x3.toNat 0) ∧
  (if (F 285 (x1 + x3).toNat) = ((y_str 0).getD x3.toNat 0) then
   C53_17 x1 (x3 + 1) (Wd S L F G h) Q
  else
   Q (some (vi 0)) (Wd S L F G h)))))) : C53_17 x1 x3 (Wd S L F G h) Q := by
  obtain ⟨g1, H⟩ := H
  refine pt53 (s' := (22, [some (vr 284), some (vi x1), some (vr 9990), some (vi x3)], [vi 3, vi x3], (Wd S L F G h))) (by decide) [0, 0, 0] rfl ⟨trivial, ⟨Nat.le_of_ble_eq_true rfl, rfl, by decide⟩⟩ ?_
  by_cases c2 : 3 ≤ x3
  · rw [if_pos c2] at H
    refine pt53 (s' := (50, [some (vr 284), some (vi x1), some (vr 9990), some (vi x3)], [vi 1], (Wd S L F G h))) (by decide) [1, 0] rfl ⟨trivial, ⟨⟨g1, (by decide : R32 3)⟩, c2⟩⟩ ?_
    exact wp.fin (v := some (vi 1)) (by decide) am_m53 rfl ⟨_, rfl, Or.inr ⟨rfl, Or.inr rfl⟩, rfl⟩ H
  · rw [if_neg c2] at H
    obtain ⟨g3, H⟩ := H
    obtain ⟨g4, H⟩ := H
    obtain ⟨g5, H⟩ := H
    obtain ⟨g6, H⟩ := H
    refine pt53 (s' := (38, [some (vr 284), some (vi x1), some (vr 9990), some (vi x3)], [vi ((y_str 0).getD x3.toNat 0), vi (F 285 (x1 + x3).toNat)], (Wd S L F G h))) (by decide) [0, 0, 285, 0, 0, 0, 0, 0, 0, 0] rfl ⟨⟨⟨⟨trivial, ⟨⟨g1, (by decide : R32 3)⟩, c2⟩⟩, ⟨Nat.le_of_ble_eq_true rfl, rfl, hh _ _ _ rfl⟩⟩, (ix ⟨Nat.le_of_ble_eq_true rfl, rfl⟩ g3)⟩, ⟨Nat.le_of_ble_eq_true rfl, rfl, by decide, g4.1, g4.2⟩⟩ ?_
    by_cases c7 : (F 285 (x1 + x3).toNat) = ((y_str 0).getD x3.toNat 0)
    · rw [if_pos c7] at H
      refine pt53 (s' := (17, [some (vr 284), some (vi x1), some (vr 9990), some (vi (x3 + 1))], [], (Wd S L F G h))) (by decide) [1, 0, 0] rfl ⟨trivial, ⟨⟨g5, g6⟩, c7⟩⟩ ?_
      exact wp.weak (a := [some (vr 284), some (vi x1), some (vr 9990), some (vi (x3 + 1))]) ⟨rfl, rfl, rfl, rfl, trivial⟩ H
    · rw [if_neg c7] at H
      refine pt53 (s' := (42, [some (vr 284), some (vi x1), some (vr 9990), some (vi x3)], [vi 0], (Wd S L F G h))) (by decide) [0, 0] rfl ⟨trivial, ⟨⟨g5, g6⟩, c7⟩⟩ ?_
      exact wp.fin (v := some (vi 0)) (by decide) am_m53 rfl ⟨_, rfl, Or.inr ⟨rfl, Or.inl rfl⟩, rfl⟩ H
set_option maxRecDepth 100000 in
set_option maxHeartbeats 4000000 in
theorem T53b_0 {S L : Nat} {F G : Nat → Nat → Int} {h : Nat → Nat → Option Nat} (hh : RfH h) {a1 : Int}  {Q : Option V2 → W2 → Prop}
    (H : (R32 ((F 284 2) - a1) ∧
 (if ((F 284 2) - a1) = 4 then
  C53b_17 a1 0 (Wd S L F G h) Q
 else
  Q (some (vi 0)) (Wd S L F G h)))) : C53b_0 a1 (Wd S L F G h) Q := by
  obtain ⟨g1, H⟩ := H
  refine pt53 (s' := (10, [some (vr 284), some (vi a1), some (vr 9991), none], [vi 4, vi ((F 284 2) - a1)], (Wd S L F G h))) (by decide) [0, 0, 0, 0, 0, 1] rfl ⟨⟨trivial, ⟨Nat.le_of_ble_eq_true rfl, rfl⟩⟩, ⟨Nat.le_of_ble_eq_true rfl, rfl, by decide⟩⟩ ?_
  by_cases c2 : ((F 284 2) - a1) = 4
  · rw [if_pos c2] at H
    refine pt53 (s' := (17, [some (vr 284), some (vi a1), some (vr 9991), some (vi 0)], [], (Wd S L F G h))) (by decide) [1, 0, 0] rfl ⟨trivial, ⟨⟨g1, (by decide : R32 4)⟩, c2⟩⟩ ?_
    exact wp.weak (a := [some (vr 284), some (vi a1), some (vr 9991), some (vi 0)]) ⟨rfl, rfl, rfl, rfl, trivial⟩ H
  · rw [if_neg c2] at H
    refine pt53 (s' := (14, [some (vr 284), some (vi a1), some (vr 9991), none], [vi 0], (Wd S L F G h))) (by decide) [0, 0] rfl ⟨trivial, ⟨⟨g1, (by decide : R32 4)⟩, c2⟩⟩ ?_
    exact wp.fin (v := some (vi 0)) (by decide) am_m53 rfl ⟨_, rfl, Or.inr ⟨rfl, Or.inl rfl⟩, rfl⟩ H
set_option maxRecDepth 100000 in
set_option maxHeartbeats 4000000 in
theorem T53b_17 {S L : Nat} {F G : Nat → Nat → Int} {h : Nat → Nat → Option Nat} (hh : RfH h) {x1 : Int} {x3 : Int}  {Q : Option V2 → W2 → Prop}
    (H : (R32 x3 ∧
 (if 4 ≤ x3 then
  Q (some (vi 1)) (Wd S L F G h)
 else
  ((0 ≤ (x1 + x3) ∧ (x1 + x3) < 90) ∧
  (0 ≤ x3 ∧ x3 < 4) ∧
  R32 (F 285 (x1 + x3).toNat) ∧
  R32 ((y_str 1).getD x3.toNat 0) ∧
  (if (F 285 (x1 + x3).toNat) = ((y_str 1).getD x3.toNat 0) then
   C53b_17 x1 (x3 + 1) (Wd S L F G h) Q
  else
   Q (some (vi 0)) (Wd S L F G h)))))) : C53b_17 x1 x3 (Wd S L F G h) Q := by
  obtain ⟨g1, H⟩ := H
  refine pt53 (s' := (22, [some (vr 284), some (vi x1), some (vr 9991), some (vi x3)], [vi 4, vi x3], (Wd S L F G h))) (by decide) [0, 0, 1] rfl ⟨trivial, ⟨Nat.le_of_ble_eq_true rfl, rfl, by decide⟩⟩ ?_
  by_cases c2 : 4 ≤ x3
  · rw [if_pos c2] at H
    refine pt53 (s' := (50, [some (vr 284), some (vi x1), some (vr 9991), some (vi x3)], [vi 1], (Wd S L F G h))) (by decide) [1, 0] rfl ⟨trivial, ⟨⟨g1, (by decide : R32 4)⟩, c2⟩⟩ ?_
    exact wp.fin (v := some (vi 1)) (by decide) am_m53 rfl ⟨_, rfl, Or.inr ⟨rfl, Or.inr rfl⟩, rfl⟩ H
  · rw [if_neg c2] at H
    obtain ⟨g3, H⟩ := H
    obtain ⟨g4, H⟩ := H
    obtain ⟨g5, H⟩ := H
    obtain ⟨g6, H⟩ := H
    refine pt53 (s' := (38, [some (vr 284), some (vi x1), some (vr 9991), some (vi x3)], [vi ((y_str 1).getD x3.toNat 0), vi (F 285 (x1 + x3).toNat)], (Wd S L F G h))) (by decide) [0, 0, 285, 0, 0, 0, 0, 0, 0, 1] rfl ⟨⟨⟨⟨trivial, ⟨⟨g1, (by decide : R32 4)⟩, c2⟩⟩, ⟨Nat.le_of_ble_eq_true rfl, rfl, hh _ _ _ rfl⟩⟩, (ix ⟨Nat.le_of_ble_eq_true rfl, rfl⟩ g3)⟩, ⟨Nat.le_of_ble_eq_true rfl, rfl, by decide, g4.1, g4.2⟩⟩ ?_
    by_cases c7 : (F 285 (x1 + x3).toNat) = ((y_str 1).getD x3.toNat 0)
    · rw [if_pos c7] at H
      refine pt53 (s' := (17, [some (vr 284), some (vi x1), some (vr 9991), some (vi (x3 + 1))], [], (Wd S L F G h))) (by decide) [1, 0, 0] rfl ⟨trivial, ⟨⟨g5, g6⟩, c7⟩⟩ ?_
      exact wp.weak (a := [some (vr 284), some (vi x1), some (vr 9991), some (vi (x3 + 1))]) ⟨rfl, rfl, rfl, rfl, trivial⟩ H
    · rw [if_neg c7] at H
      refine pt53 (s' := (42, [some (vr 284), some (vi x1), some (vr 9991), some (vi x3)], [vi 0], (Wd S L F G h))) (by decide) [0, 0] rfl ⟨trivial, ⟨⟨g5, g6⟩, c7⟩⟩ ?_
      exact wp.fin (v := some (vi 0)) (by decide) am_m53 rfl ⟨_, rfl, Or.inr ⟨rfl, Or.inl rfl⟩, rfl⟩ H
set_option maxRecDepth 100000 in
set_option maxHeartbeats 4000000 in
theorem T53c_0 {S L : Nat} {F G : Nat → Nat → Int} {h : Nat → Nat → Option Nat} (hh : RfH h) {a1 : Int}  {Q : Option V2 → W2 → Prop}
    (H : (R32 ((F 284 2) - a1) ∧
 (if ((F 284 2) - a1) = 5 then
  C53c_17 a1 0 (Wd S L F G h) Q
 else
  Q (some (vi 0)) (Wd S L F G h)))) : C53c_0 a1 (Wd S L F G h) Q := by
  obtain ⟨g1, H⟩ := H
  refine pt53 (s' := (10, [some (vr 284), some (vi a1), some (vr 9992), none], [vi 5, vi ((F 284 2) - a1)], (Wd S L F G h))) (by decide) [0, 0, 0, 0, 0, 2] rfl ⟨⟨trivial, ⟨Nat.le_of_ble_eq_true rfl, rfl⟩⟩, ⟨Nat.le_of_ble_eq_true rfl, rfl, by decide⟩⟩ ?_
  by_cases c2 : ((F 284 2) - a1) = 5
  · rw [if_pos c2] at H
    refine pt53 (s' := (17, [some (vr 284), some (vi a1), some (vr 9992), some (vi 0)], [], (Wd S L F G h))) (by decide) [1, 0, 0] rfl ⟨trivial, ⟨⟨g1, (by decide : R32 5)⟩, c2⟩⟩ ?_
    exact wp.weak (a := [some (vr 284), some (vi a1), some (vr 9992), some (vi 0)]) ⟨rfl, rfl, rfl, rfl, trivial⟩ H
  · rw [if_neg c2] at H
    refine pt53 (s' := (14, [some (vr 284), some (vi a1), some (vr 9992), none], [vi 0], (Wd S L F G h))) (by decide) [0, 0] rfl ⟨trivial, ⟨⟨g1, (by decide : R32 5)⟩, c2⟩⟩ ?_
    exact wp.fin (v := some (vi 0)) (by decide) am_m53 rfl ⟨_, rfl, Or.inr ⟨rfl, Or.inl rfl⟩, rfl⟩ H
set_option maxRecDepth 100000 in
set_option maxHeartbeats 4000000 in
theorem T53c_17 {S L : Nat} {F G : Nat → Nat → Int} {h : Nat → Nat → Option Nat} (hh : RfH h) {x1 : Int} {x3 : Int}  {Q : Option V2 → W2 → Prop}
    (H : (R32 x3 ∧
 (if 5 ≤ x3 then
  Q (some (vi 1)) (Wd S L F G h)
 else
  ((0 ≤ (x1 + x3) ∧ (x1 + x3) < 90) ∧
  (0 ≤ x3 ∧ x3 < 5) ∧
  R32 (F 285 (x1 + x3).toNat) ∧
  R32 ((y_str 2).getD x3.toNat 0) ∧
  (if (F 285 (x1 + x3).toNat) = ((y_str 2).getD x3.toNat 0) then
   C53c_17 x1 (x3 + 1) (Wd S L F G h) Q
  else
   Q (some (vi 0)) (Wd S L F G h)))))) : C53c_17 x1 x3 (Wd S L F G h) Q := by
  obtain ⟨g1, H⟩ := H
  refine pt53 (s' := (22, [some (vr 284), some (vi x1), some (vr 9992), some (vi x3)], [vi 5, vi x3], (Wd S L F G h))) (by decide) [0, 0, 2] rfl ⟨trivial, ⟨Nat.le_of_ble_eq_true rfl, rfl, by decide⟩⟩ ?_
  by_cases c2 : 5 ≤ x3
  · rw [if_pos c2] at H
    refine pt53 (s' := (50, [some (vr 284), some (vi x1), some (vr 9992), some (vi x3)], [vi 1], (Wd S L F G h))) (by decide) [1, 0] rfl ⟨trivial, ⟨⟨g1, (by decide : R32 5)⟩, c2⟩⟩ ?_
    exact wp.fin (v := some (vi 1)) (by decide) am_m53 rfl ⟨_, rfl, Or.inr ⟨rfl, Or.inr rfl⟩, rfl⟩ H
  · rw [if_neg c2] at H
    obtain ⟨g3, H⟩ := H
    obtain ⟨g4, H⟩ := H
    obtain ⟨g5, H⟩ := H
    obtain ⟨g6, H⟩ := H
    refine pt53 (s' := (38, [some (vr 284), some (vi x1), some (vr 9992), some (vi x3)], [vi ((y_str 2).getD x3.toNat 0), vi (F 285 (x1 + x3).toNat)], (Wd S L F G h))) (by decide) [0, 0, 285, 0, 0, 0, 0, 0, 0, 2] rfl ⟨⟨⟨⟨trivial, ⟨⟨g1, (by decide : R32 5)⟩, c2⟩⟩, ⟨Nat.le_of_ble_eq_true rfl, rfl, hh _ _ _ rfl⟩⟩, (ix ⟨Nat.le_of_ble_eq_true rfl, rfl⟩ g3)⟩, ⟨Nat.le_of_ble_eq_true rfl, rfl, by decide, g4.1, g4.2⟩⟩ ?_
    by_cases c7 : (F 285 (x1 + x3).toNat) = ((y_str 2).getD x3.toNat 0)
    · rw [if_pos c7] at H
      refine pt53 (s' := (17, [some (vr 284), some (vi x1), some (vr 9992), some (vi (x3 + 1))], [], (Wd S L F G h))) (by decide) [1, 0, 0] rfl ⟨trivial, ⟨⟨g5, g6⟩, c7⟩⟩ ?_
      exact wp.weak (a := [some (vr 284), some (vi x1), some (vr 9992), some (vi (x3 + 1))]) ⟨rfl, rfl, rfl, rfl, trivial⟩ H
    · rw [if_neg c7] at H
      refine pt53 (s' := (42, [some (vr 284), some (vi x1), some (vr 9992), some (vi x3)], [vi 0], (Wd S L F G h))) (by decide) [0, 0] rfl ⟨trivial, ⟨⟨g5, g6⟩, c7⟩⟩ ?_
      exact wp.fin (v := some (vi 0)) (by decide) am_m53 rfl ⟨_, rfl, Or.inr ⟨rfl, Or.inl rfl⟩, rfl⟩ H
set_option maxRecDepth 100000 in
set_option maxHeartbeats 4000000 in
theorem T53d_0 {S L : Nat} {F G : Nat → Nat → Int} {h : Nat → Nat → Option Nat} (hh : RfH h) {a1 : Int}  {Q : Option V2 → W2 → Prop}
    (H : (R32 ((F 284 2) - a1) ∧
 (if ((F 284 2) - a1) = 6 then
  C53d_17 a1 0 (Wd S L F G h) Q
 else
  Q (some (vi 0)) (Wd S L F G h)))) : C53d_0 a1 (Wd S L F G h) Q := by
  obtain ⟨g1, H⟩ := H
  refine pt53 (s' := (10, [some (vr 284), some (vi a1), some (vr 9993), none], [vi 6, vi ((F 284 2) - a1)], (Wd S L F G h))) (by decide) [0, 0, 0, 0, 0, 3] rfl ⟨⟨trivial, ⟨Nat.le_of_ble_eq_true rfl, rfl⟩⟩, ⟨Nat.le_of_ble_eq_true rfl, rfl, by decide⟩⟩ ?_
  by_cases c2 : ((F 284 2) - a1) = 6
  · rw [if_pos c2] at H
    refine pt53 (s' := (17, [some (vr 284), some (vi a1), some (vr 9993), some (vi 0)], [], (Wd S L F G h))) (by decide) [1, 0, 0] rfl ⟨trivial, ⟨⟨g1, (by decide : R32 6)⟩, c2⟩⟩ ?_
    exact wp.weak (a := [some (vr 284), some (vi a1), some (vr 9993), some (vi 0)]) ⟨rfl, rfl, rfl, rfl, trivial⟩ H
  · rw [if_neg c2] at H
    refine pt53 (s' := (14, [some (vr 284), some (vi a1), some (vr 9993), none], [vi 0], (Wd S L F G h))) (by decide) [0, 0] rfl ⟨trivial, ⟨⟨g1, (by decide : R32 6)⟩, c2⟩⟩ ?_
    exact wp.fin (v := some (vi 0)) (by decide) am_m53 rfl ⟨_, rfl, Or.inr ⟨rfl, Or.inl rfl⟩, rfl⟩ H
set_option maxRecDepth 100000 in
set_option maxHeartbeats 4000000 in
theorem T53d_17 {S L : Nat} {F G : Nat → Nat → Int} {h : Nat → Nat → Option Nat} (hh : RfH h) {x1 : Int} {x3 : Int}  {Q : Option V2 → W2 → Prop}
    (H : (R32 x3 ∧
 (if 6 ≤ x3 then
  Q (some (vi 1)) (Wd S L F G h)
 else
  ((0 ≤ (x1 + x3) ∧ (x1 + x3) < 90) ∧
  (0 ≤ x3 ∧ x3 < 6) ∧
  R32 (F 285 (x1 + x3).toNat) ∧
  R32 ((y_str 3).getD x3.toNat 0) ∧
  (if (F 285 (x1 + x3).toNat) = ((y_str 3).getD x3.toNat 0) then
   C53d_17 x1 (x3 + 1) (Wd S L F G h) Q
  else
   Q (some (vi 0)) (Wd S L F G h)))))) : C53d_17 x1 x3 (Wd S L F G h) Q := by
  obtain ⟨g1, H⟩ := H
  refine pt53 (s' := (22, [some (vr 284), some (vi x1), some (vr 9993), some (vi x3)], [vi 6, vi x3], (Wd S L F G h))) (by decide) [0, 0, 3] rfl ⟨trivial, ⟨Nat.le_of_ble_eq_true rfl, rfl, by decide⟩⟩ ?_
  by_cases c2 : 6 ≤ x3
  · rw [if_pos c2] at H
    refine pt53 (s' := (50, [some (vr 284), some (vi x1), some (vr 9993), some (vi x3)], [vi 1], (Wd S L F G h))) (by decide) [1, 0] rfl ⟨trivial, ⟨⟨g1, (by decide : R32 6)⟩, c2⟩⟩ ?_
    exact wp.fin (v := some (vi 1)) (by decide) am_m53 rfl ⟨_, rfl, Or.inr ⟨rfl, Or.inr rfl⟩, rfl⟩ H
  · rw [if_neg c2] at H
    obtain ⟨g3, H⟩ := H
    obtain ⟨g4, H⟩ := H
    obtain ⟨g5, H⟩ := H
    obtain ⟨g6, H⟩ := H
    refine pt53 (s' := (38, [some (vr 284), some (vi x1), some (vr 9993), some (vi x3)], [vi ((y_str 3).getD x3.toNat 0), vi (F 285 (x1 + x3).toNat)], (Wd S L F G h))) (by decide) [0, 0, 285, 0, 0, 0, 0, 0, 0, 3] rfl ⟨⟨⟨⟨trivial, ⟨⟨g1, (by decide : R32 6)⟩, c2⟩⟩, ⟨Nat.le_of_ble_eq_true rfl, rfl, hh _ _ _ rfl⟩⟩, (ix ⟨Nat.le_of_ble_eq_true rfl, rfl⟩ g3)⟩, ⟨Nat.le_of_ble_eq_true rfl, rfl, by decide, g4.1, g4.2⟩⟩ ?_
    by_cases c7 : (F 285 (x1 + x3).toNat) = ((y_str 3).getD x3.toNat 0)
    · rw [if_pos c7] at H
      refine pt53 (s' := (17, [some (vr 284), some (vi x1), some (vr 9993), some (vi (x3 + 1))], [], (Wd S L F G h))) (by decide) [1, 0, 0] rfl ⟨trivial, ⟨⟨g5, g6⟩, c7⟩⟩ ?_
      exact wp.weak (a := [some (vr 284), some (vi x1), some (vr 9993), some (vi (x3 + 1))]) ⟨rfl, rfl, rfl, rfl, trivial⟩ H
    · rw [if_neg c7] at H
      refine pt53 (s' := (42, [some (vr 284), some (vi x1), some (vr 9993), some (vi x3)], [vi 0], (Wd S L F G h))) (by decide) [0, 0] rfl ⟨trivial, ⟨⟨g5, g6⟩, c7⟩⟩ ?_
      exact wp.fin (v := some (vi 0)) (by decide) am_m53 rfl ⟨_, rfl, Or.inr ⟨rfl, Or.inl rfl⟩, rfl⟩ H
set_option maxRecDepth 100000 in
set_option maxHeartbeats 4000000 in
theorem T54_0 {S L : Nat} {F G : Nat → Nat → Int} {h : Nat → Nat → Option Nat} (hh : RfH h)   {Q : Option V2 → W2 → Prop}
    (H : C54_4 1 0 (Wd S L F G h) Q) : C54_0  (Wd S L F G h) Q := by
  refine pt54 (s' := (4, [some (vr 284), some (vi 1), some (vi 0)], [], (Wd S L F G h))) (by decide) [0, 0, 0, 0] rfl trivial ?_
  exact wp.weak (a := [some (vr 284), some (vi 1), some (vi 0)]) ⟨rfl, rfl, rfl, trivial⟩ H
set_option maxRecDepth 100000 in
set_option maxHeartbeats 4000000 in
theorem T54_4 {S L : Nat} {F G : Nat → Nat → Int} {h : Nat → Nat → Option Nat} (hh : RfH h) {x1 : Int} {x2 : Int}  {Q : Option V2 → W2 → Prop}
    (H : (R32 x2 ∧
 (if 12 < x2 then
  Q (none) (Wd S L F G h)
 else
  (R32 x1 ∧
  (if x1 = 0 then
   Q (none) (Wd S L F G h)
  else
   C55_0  (Wd S L F G h) (fun v w1 => ∃ (F5 : Nat → Nat → Int), v = none ∧ w1 = (Wd S L F5 G h) ∧
    (R32 (F5 284 3) ∧
    (if 0 ≤ (F5 284 3) then
     C54_4 0 (x2 + 1) (Wd S L F5 G h) Q
    else
     C56_0  (Wd S L F5 G h) (fun v w1 => ∃ (v8 : Int) (F9 : Nat → Nat → Int), v = some (vi v8) ∧ w1 = (Wd S L F9 G h) ∧
      (R32 v8 ∧
      (if v8 = 0 then
       C54_4 0 (x2 + 1) (Wd S L F9 G h) Q
      else
       C54_4 1 (x2 + 1) (Wd S L F9 G h) Q))))))))))) : C54_4 x1 x2 (Wd S L F G h) Q := by
  obtain ⟨g1, H⟩ := H
  refine pt54 (s' := (7, [some (vr 284), some (vi x1), some (vi x2)], [vi 12, vi x2], (Wd S L F G h))) (by decide) [0, 0] rfl trivial ?_
  by_cases c2 : 12 < x2
  · rw [if_pos c2] at H
    refine pt54 (s' := (44, [some (vr 284), some (vi x1), some (vi x2)], [], (Wd S L F G h))) (by decide) [1] rfl ⟨trivial, ⟨⟨g1, (by decide : R32 12)⟩, c2⟩⟩ ?_
    exact wp.fin (v := none) (by decide) am_m54 rfl ⟨rfl, rfl, rfl⟩ H
  · rw [if_neg c2] at H
    obtain ⟨g3, H⟩ := H
    refine pt54 (s' := (11, [some (vr 284), some (vi x1), some (vi x2)], [vi x1], (Wd S L F G h))) (by decide) [0, 0] rfl ⟨trivial, ⟨⟨g1, (by decide : R32 12)⟩, c2⟩⟩ ?_
    by_cases c4 : x1 = 0
    · rw [if_pos c4] at H
      refine pt54 (s' := (44, [some (vr 284), some (vi x1), some (vi x2)], [], (Wd S L F G h))) (by decide) [1] rfl ⟨trivial, ⟨g3, c4⟩⟩ ?_
      exact wp.fin (v := none) (by decide) am_m54 rfl ⟨rfl, rfl, rfl⟩ H
    · rw [if_neg c4] at H
      refine pt54 (s' := (15, [some (vr 284), some (vi x1), some (vi x2)], [vr 284], (Wd S L F G h))) (by decide) [0, 0] rfl ⟨trivial, ⟨g3, c4⟩⟩ ?_
      refine wp.cl am_m54 rfl am_m55 8 [vr 284] [] rfl (Nat.le_of_ble_eq_true rfl) ⟨(Nat.le_of_ble_eq_true rfl), (Nat.le_of_ble_eq_true rfl)⟩ rfl (Nat.le_of_ble_eq_true rfl) rfl (Nat.le_of_ble_eq_true rfl) (Nat.le_of_ble_eq_true rfl) ⟨_, _, rfl, Nat.le_of_ble_eq_true rfl, rfl⟩ ?_
      refine wp.mono H ?_
      rintro v w1 ⟨F5, rfl, rfl, H⟩
      show wp 9 54 (18, [some (vr 284), some (vi x1), some (vi x2)], [], (Wd S L F5 G h)) _
      obtain ⟨g6, H⟩ := H
      refine pt54 (s' := (22, [some (vr 284), some (vi x1), some (vi x2)], [vi (F5 284 3)], (Wd S L F5 G h))) (by decide) [0, 0] rfl ⟨trivial, ⟨Nat.le_of_ble_eq_true rfl, rfl⟩⟩ ?_
      by_cases c7 : 0 ≤ (F5 284 3)
      · rw [if_pos c7] at H
        refine pt54 (s' := (4, [some (vr 284), some (vi 0), some (vi (x2 + 1))], [], (Wd S L F5 G h))) (by decide) [1, 0, 0, 0, 0] rfl ⟨trivial, ⟨g6, c7⟩⟩ ?_
        exact wp.weak (a := [some (vr 284), some (vi 0), some (vi (x2 + 1))]) ⟨rfl, rfl, rfl, trivial⟩ H
      · rw [if_neg c7] at H
        refine pt54 (s' := (26, [some (vr 284), some (vi x1), some (vi x2)], [vr 284], (Wd S L F5 G h))) (by decide) [0, 0] rfl ⟨trivial, ⟨g6, c7⟩⟩ ?_
        refine wp.cl am_m54 rfl am_m56 6 [vr 284] [] rfl (Nat.le_of_ble_eq_true rfl) ⟨(Nat.le_of_ble_eq_true rfl), (Nat.le_of_ble_eq_true rfl)⟩ rfl (Nat.le_of_ble_eq_true rfl) rfl (Nat.le_of_ble_eq_true rfl) (Nat.le_of_ble_eq_true rfl) ⟨_, _, rfl, Nat.le_of_ble_eq_true rfl, rfl⟩ ?_
        refine wp.mono H ?_
        rintro v w1 ⟨v8, F9, rfl, rfl, H⟩
        show wp 9 54 (29, [some (vr 284), some (vi x1), some (vi x2)], [vi v8], (Wd S L F9 G h)) _
        obtain ⟨g10, H⟩ := H
        by_cases c11 : v8 = 0
        · rw [if_pos c11] at H
          refine pt54 (s' := (4, [some (vr 284), some (vi 0), some (vi (x2 + 1))], [], (Wd S L F9 G h))) (by decide) [1, 0, 0, 0, 0] rfl ⟨trivial, ⟨g10, c11⟩⟩ ?_
          exact wp.weak (a := [some (vr 284), some (vi 0), some (vi (x2 + 1))]) ⟨rfl, rfl, rfl, trivial⟩ H
        · rw [if_neg c11] at H
          refine pt54 (s' := (4, [some (vr 284), some (vi 1), some (vi (x2 + 1))], [], (Wd S L F9 G h))) (by decide) [0, 0, 0, 0, 0, 0] rfl ⟨trivial, ⟨g10, c11⟩⟩ ?_
          exact wp.weak (a := [some (vr 284), some (vi 1), some (vi (x2 + 1))]) ⟨rfl, rfl, rfl, trivial⟩ H
set_option maxRecDepth 100000 in
set_option maxHeartbeats 4000000 in
theorem T55_0 {S L : Nat} {F G : Nat → Nat → Int} {h : Nat → Nat → Option Nat} (hh : RfH h)   {Q : Option V2 → W2 → Prop}
    (H : C62_0  (Wd S L F G h) (fun v w1 => ∃ (F1 : Nat → Nat → Int), v = none ∧ w1 = (Wd S L F1 G h) ∧
  (R32 (F1 284 7) ∧
  (if 12 ≤ (F1 284 7) then
   C64_0 (F1 284 2) (Wd S L F1 G h) (fun v w1 => ∃ (F4 : Nat → Nat → Int), v = none ∧ w1 = (Wd S L F4 G h) ∧
    Q (none) (Wd S L F4 G h))
  else
   C63_0 97 108 (Wd S L F1 G h) (fun v w1 => ∃ (v5 : Int), v = some (vi v5) ∧ w1 = (Wd S L F1 G h) ∧
    (R32 v5 ∧
    (if v5 = 0 then
     C64_0 (F1 284 2) (Wd S L F1 G h) (fun v w1 => ∃ (F8 : Nat → Nat → Int), v = none ∧ w1 = (Wd S L F8 G h) ∧
      Q (none) (Wd S L F8 G h))
    else
     ((0 ≤ (F1 284 2) ∧ (F1 284 2) < 90) ∧
     (0 ≤ (F1 284 7) ∧ (F1 284 7) < 12) ∧
     C61_0  (Wd S L (am_up (am_up F1 286 (F1 284 7).toNat ((F1 285 (F1 284 2).toNat) - 97)) 284 2 ((F1 284 2) + 1)) G h) (fun v w1 => ∃ (v11 : Int) (F12 : Nat → Nat → Int), v = some (vi v11) ∧ w1 = (Wd S L F12 G h) ∧
      Q (none) (Wd S L (am_up (am_up F12 287 (F1 284 7).toNat v11) 284 7 ((F12 284 7) + 1)) G h)))))))))) : C55_0  (Wd S L F G h) Q := by
  refine pt55 (s' := (1, [some (vr 284)], [vr 284], (Wd S L F G h))) (by decide) [0] rfl trivial ?_
  refine wp.cl am_m55 rfl am_m62 5 [vr 284] [] rfl (Nat.le_of_ble_eq_true rfl) ⟨(Nat.le_of_ble_eq_true rfl), (Nat.le_of_ble_eq_true rfl)⟩ rfl (Nat.le_of_ble_eq_true rfl) rfl (Nat.le_of_ble_eq_true rfl) (Nat.le_of_ble_eq_true rfl) ⟨_, _, rfl, Nat.le_of_ble_eq_true rfl, rfl⟩ ?_
  refine wp.mono H ?_
  rintro v w1 ⟨F1, rfl, rfl, H⟩
  show wp 8 55 (4, [some (vr 284)], [], (Wd S L F1 G h)) _
  obtain ⟨g2, H⟩ := H
  refine pt55 (s' := (10, [some (vr 284)], [vi 12, vi (F1 284 7)], (Wd S L F1 G h))) (by decide) [0, 0, 0] rfl ⟨trivial, ⟨Nat.le_of_ble_eq_true rfl, rfl⟩⟩ ?_
  by_cases c3 : 12 ≤ (F1 284 7)
  · rw [if_pos c3] at H
    refine pt55 (s' := (29, [some (vr 284)], [vi (F1 284 2), vr 284], (Wd S L F1 G h))) (by decide) [1, 0, 0, 0] rfl ⟨⟨trivial, ⟨⟨g2, (by decide : R32 12)⟩, c3⟩⟩, ⟨Nat.le_of_ble_eq_true rfl, rfl⟩⟩ ?_
    refine wp.cl am_m55 rfl am_m64 5 [vr 284, vi (F1 284 2)] [] rfl (Nat.le_of_ble_eq_true rfl) ⟨(Nat.le_of_ble_eq_true rfl), (Nat.le_of_ble_eq_true rfl)⟩ rfl (Nat.le_of_ble_eq_true rfl) rfl (Nat.le_of_ble_eq_true rfl) (Nat.le_of_ble_eq_true rfl) ⟨_, _, rfl, Nat.le_of_ble_eq_true rfl, rfl⟩ ?_
    refine wp.mono H ?_
    rintro v w1 ⟨F4, rfl, rfl, H⟩
    show wp 8 55 (32, [some (vr 284)], [], (Wd S L F4 G h)) _
    exact wp.fin (v := none) (by decide) am_m55 rfl ⟨rfl, rfl, rfl⟩ H
  · rw [if_neg c3] at H
    refine pt55 (s' := (18, [some (vr 284)], [vi 108, vi 97, vr 284], (Wd S L F1 G h))) (by decide) [0, 0, 0, 0] rfl ⟨trivial, ⟨⟨g2, (by decide : R32 12)⟩, c3⟩⟩ ?_
    refine wp.cl am_m55 rfl am_m63 5 [vr 284, vi 97, vi 108] [] rfl (Nat.le_of_ble_eq_true rfl) ⟨(Nat.le_of_ble_eq_true rfl), (Nat.le_of_ble_eq_true rfl)⟩ rfl (Nat.le_of_ble_eq_true rfl) rfl (Nat.le_of_ble_eq_true rfl) (Nat.le_of_ble_eq_true rfl) ⟨_, _, rfl, Nat.le_of_ble_eq_true rfl, rfl⟩ ?_
    refine wp.mono H ?_
    rintro v w1 ⟨v5, rfl, rfl, H⟩
    show wp 8 55 (21, [some (vr 284)], [vi v5], (Wd S L F1 G h)) _
    obtain ⟨g6, H⟩ := H
    by_cases c7 : v5 = 0
    · rw [if_pos c7] at H
      refine pt55 (s' := (29, [some (vr 284)], [vi (F1 284 2), vr 284], (Wd S L F1 G h))) (by decide) [0, 0, 0, 0] rfl ⟨⟨trivial, ⟨g6, c7⟩⟩, ⟨Nat.le_of_ble_eq_true rfl, rfl⟩⟩ ?_
      refine wp.cl am_m55 rfl am_m64 5 [vr 284, vi (F1 284 2)] [] rfl (Nat.le_of_ble_eq_true rfl) ⟨(Nat.le_of_ble_eq_true rfl), (Nat.le_of_ble_eq_true rfl)⟩ rfl (Nat.le_of_ble_eq_true rfl) rfl (Nat.le_of_ble_eq_true rfl) (Nat.le_of_ble_eq_true rfl) ⟨_, _, rfl, Nat.le_of_ble_eq_true rfl, rfl⟩ ?_
      refine wp.mono H ?_
      rintro v w1 ⟨F8, rfl, rfl, H⟩
      show wp 8 55 (32, [some (vr 284)], [], (Wd S L F8 G h)) _
      exact wp.fin (v := none) (by decide) am_m55 rfl ⟨rfl, rfl, rfl⟩ H
    · rw [if_neg c7] at H
      obtain ⟨g9, H⟩ := H
      obtain ⟨g10, H⟩ := H
      refine pt55 (s' := (73, [some (vr 284)], [vr 284, vi (F1 284 7), vr 287], (Wd S L (am_up (am_up F1 286 (F1 284 7).toNat ((F1 285 (F1 284 2).toNat) - 97)) 284 2 ((F1 284 2) + 1)) G h))) (by decide) [1, 0, 286, 0, 0, 0, 285, 0, 0, 0, 0, 0, 0, 0, 0, 0, 0, 0, 0, 0, 287, 0, 0, 0] rfl ⟨⟨⟨⟨⟨⟨⟨⟨⟨⟨⟨trivial, ⟨g6, c7⟩⟩, ⟨Nat.le_of_ble_eq_true rfl, rfl, hh _ _ _ rfl⟩⟩, ⟨Nat.le_of_ble_eq_true rfl, rfl⟩⟩, ⟨Nat.le_of_ble_eq_true rfl, rfl, hh _ _ _ rfl⟩⟩, ⟨Nat.le_of_ble_eq_true rfl, rfl⟩⟩, (ix ⟨Nat.le_of_ble_eq_true rfl, rfl⟩ g9)⟩, (ix ⟨Nat.le_of_ble_eq_true rfl, rfl⟩ g10)⟩, ⟨Nat.le_of_ble_eq_true rfl, rfl⟩⟩, ⟨Nat.le_of_ble_eq_true rfl, rfl, fun h => by cases h⟩⟩, ⟨Nat.le_of_ble_eq_true rfl, rfl, hh _ _ _ rfl⟩⟩, ⟨Nat.le_of_ble_eq_true rfl, rfl⟩⟩ ?_
      refine wp.cl am_m55 rfl am_m61 7 [vr 284] [vi (F1 284 7), vr 287] rfl (Nat.le_of_ble_eq_true rfl) ⟨(Nat.le_of_ble_eq_true rfl), (Nat.le_of_ble_eq_true rfl)⟩ rfl (Nat.le_of_ble_eq_true rfl) rfl (Nat.le_of_ble_eq_true rfl) (Nat.le_of_ble_eq_true rfl) ⟨_, _, rfl, Nat.le_of_ble_eq_true rfl, rfl⟩ ?_
      refine wp.mono H ?_
      rintro v w1 ⟨v11, F12, rfl, rfl, H⟩
      show wp 8 55 (76, [some (vr 284)], [vi v11, vi (F1 284 7), vr 287], (Wd S L F12 G h)) _
      refine pt55 (s' := (87, [some (vr 284)], [], (Wd S L (am_up (am_up F12 287 (F1 284 7).toNat v11) 284 7 ((F12 284 7) + 1)) G h))) (by decide) [0, 0, 0, 0, 0, 0, 0] rfl ⟨⟨⟨trivial, (ix ⟨Nat.le_of_ble_eq_true rfl, rfl⟩ g10)⟩, ⟨Nat.le_of_ble_eq_true rfl, rfl⟩⟩, ⟨Nat.le_of_ble_eq_true rfl, rfl, fun h => by cases h⟩⟩ ?_
      exact wp.fin (v := none) (by decide) am_m55 rfl ⟨rfl, rfl, rfl⟩ H
set_option maxRecDepth 100000 in
set_option maxHeartbeats 4000000 in
theorem T56_0 {S L : Nat} {F G : Nat → Nat → Int} {h : Nat → Nat → Option Nat} (hh : RfH h)   {Q : Option V2 → W2 → Prop}
    (H : C62_0  (Wd S L F G h) (fun v w1 => ∃ (F1 : Nat → Nat → Int), v = none ∧ w1 = (Wd S L F1 G h) ∧
  C63_0 44 44 (Wd S L F1 G h) (fun v w1 => ∃ (v2 : Int), v = some (vi v2) ∧ w1 = (Wd S L F1 G h) ∧
   (R32 v2 ∧
   (if v2 = 0 then
    Q (some (vi 0)) (Wd S L F1 G h)
   else
    Q (some (vi 1)) (Wd S L (am_up F1 284 2 ((F1 284 2) + 1)) G h)))))) : C56_0  (Wd S L F G h) Q := by
  refine pt56 (s' := (1, [some (vr 284)], [vr 284], (Wd S L F G h))) (by decide) [0] rfl trivial ?_
  refine wp.cl am_m56 rfl am_m62 5 [vr 284] [] rfl (Nat.le_of_ble_eq_true rfl) ⟨(Nat.le_of_ble_eq_true rfl), (Nat.le_of_ble_eq_true rfl)⟩ rfl (Nat.le_of_ble_eq_true rfl) rfl (Nat.le_of_ble_eq_true rfl) (Nat.le_of_ble_eq_true rfl) ⟨_, _, rfl, Nat.le_of_ble_eq_true rfl, rfl⟩ ?_
  refine wp.mono H ?_
  rintro v w1 ⟨F1, rfl, rfl, H⟩
  show wp 6 56 (4, [some (vr 284)], [], (Wd S L F1 G h)) _
  refine pt56 (s' := (9, [some (vr 284)], [vi 44, vi 44, vr 284], (Wd S L F1 G h))) (by decide) [0, 0, 0] rfl trivial ?_
  refine wp.cl am_m56 rfl am_m63 5 [vr 284, vi 44, vi 44] [] rfl (Nat.le_of_ble_eq_true rfl) ⟨(Nat.le_of_ble_eq_true rfl), (Nat.le_of_ble_eq_true rfl)⟩ rfl (Nat.le_of_ble_eq_true rfl) rfl (Nat.le_of_ble_eq_true rfl) (Nat.le_of_ble_eq_true rfl) ⟨_, _, rfl, Nat.le_of_ble_eq_true rfl, rfl⟩ ?_
  refine wp.mono H ?_
  rintro v w1 ⟨v2, rfl, rfl, H⟩
  show wp 6 56 (12, [some (vr 284)], [vi v2], (Wd S L F1 G h)) _
  obtain ⟨g3, H⟩ := H
  by_cases c4 : v2 = 0
  · rw [if_pos c4] at H
    refine pt56 (s' := (16, [some (vr 284)], [vi 0], (Wd S L F1 G h))) (by decide) [0, 0] rfl ⟨trivial, ⟨g3, c4⟩⟩ ?_
    exact wp.fin (v := some (vi 0)) (by decide) am_m56 rfl ⟨_, rfl, Or.inr ⟨rfl, Or.inl rfl⟩, rfl⟩ H
  · rw [if_neg c4] at H
    refine pt56 (s' := (28, [some (vr 284)], [vi 1], (Wd S L (am_up F1 284 2 ((F1 284 2) + 1)) G h))) (by decide) [1, 0, 0, 0, 0, 0, 0, 0] rfl ⟨⟨⟨trivial, ⟨g3, c4⟩⟩, ⟨Nat.le_of_ble_eq_true rfl, rfl⟩⟩, ⟨Nat.le_of_ble_eq_true rfl, rfl, fun h => by cases h⟩⟩ ?_
    exact wp.fin (v := some (vi 1)) (by decide) am_m56 rfl ⟨_, rfl, Or.inr ⟨rfl, Or.inr rfl⟩, rfl⟩ H
set_option maxRecDepth 100000 in
set_option maxHeartbeats 4000000 in
theorem T57_0 {S L : Nat} {F G : Nat → Nat → Int} {h : Nat → Nat → Option Nat} (hh : RfH h)   {Q : Option V2 → W2 → Prop}
    (H : C60_0 1 9 (Wd S L F G h) (fun v w1 => ∃ (v1 : Int) (F2 : Nat → Nat → Int), v = some (vi v1) ∧ w1 = (Wd S L F2 G h) ∧
  C59_0 58 (Wd S L (am_up F2 284 8 v1) G h) (fun v w1 => ∃ (F3 : Nat → Nat → Int), v = none ∧ w1 = (Wd S L F3 G h) ∧
   C62_0  (Wd S L F3 G h) (fun v w1 => ∃ (F4 : Nat → Nat → Int), v = none ∧ w1 = (Wd S L F4 G h) ∧
    C57_21  (Wd S L F4 G h) Q)))) : C57_0  (Wd S L F G h) Q := by
  refine pt57 (s' := (5, [some (vr 284)], [vi 9, vi 1, vr 284, vr 284], (Wd S L F G h))) (by decide) [0, 0, 0, 0] rfl trivial ?_
  refine wp.cl am_m57 rfl am_m60 6 [vr 284, vi 1, vi 9] [vr 284] rfl (Nat.le_of_ble_eq_true rfl) ⟨(Nat.le_of_ble_eq_true rfl), (Nat.le_of_ble_eq_true rfl)⟩ rfl (Nat.le_of_ble_eq_true rfl) rfl (Nat.le_of_ble_eq_true rfl) (Nat.le_of_ble_eq_true rfl) ⟨_, _, rfl, Nat.le_of_ble_eq_true rfl, rfl⟩ ?_
  refine wp.mono H ?_
  rintro v w1 ⟨v1, F2, rfl, rfl, H⟩
  show wp 7 57 (8, [some (vr 284)], [vi v1, vr 284], (Wd S L F2 G h)) _
  refine pt57 (s' := (14, [some (vr 284)], [vi 58, vr 284], (Wd S L (am_up F2 284 8 v1) G h))) (by decide) [0, 0, 0] rfl ⟨trivial, ⟨Nat.le_of_ble_eq_true rfl, rfl, fun h => by cases h⟩⟩ ?_
  refine wp.cl am_m57 rfl am_m59 6 [vr 284, vi 58] [] rfl (Nat.le_of_ble_eq_true rfl) ⟨(Nat.le_of_ble_eq_true rfl), (Nat.le_of_ble_eq_true rfl)⟩ rfl (Nat.le_of_ble_eq_true rfl) rfl (Nat.le_of_ble_eq_true rfl) (Nat.le_of_ble_eq_true rfl) ⟨_, _, rfl, Nat.le_of_ble_eq_true rfl, rfl⟩ ?_
  refine wp.mono H ?_
  rintro v w1 ⟨F3, rfl, rfl, H⟩
  show wp 7 57 (17, [some (vr 284)], [], (Wd S L F3 G h)) _
  refine pt57 (s' := (18, [some (vr 284)], [vr 284], (Wd S L F3 G h))) (by decide) [0] rfl trivial ?_
  refine wp.cl am_m57 rfl am_m62 5 [vr 284] [] rfl (Nat.le_of_ble_eq_true rfl) ⟨(Nat.le_of_ble_eq_true rfl), (Nat.le_of_ble_eq_true rfl)⟩ rfl (Nat.le_of_ble_eq_true rfl) rfl (Nat.le_of_ble_eq_true rfl) (Nat.le_of_ble_eq_true rfl) ⟨_, _, rfl, Nat.le_of_ble_eq_true rfl, rfl⟩ ?_
  refine wp.mono H ?_
  rintro v w1 ⟨F4, rfl, rfl, H⟩
  show wp 7 57 (21, [some (vr 284)], [], (Wd S L F4 G h)) _
  exact wp.weak (a := [some (vr 284)]) ⟨rfl, trivial⟩ H
set_option maxRecDepth 100000 in
set_option maxHeartbeats 4000000 in
theorem T57_21 {S L : Nat} {F G : Nat → Nat → Int} {h : Nat → Nat → Option Nat} (hh : RfH h)   {Q : Option V2 → W2 → Prop}
    (H : (R32 (F 284 7) ∧
 (if 6 ≤ (F 284 7) then
  (if (F 284 7) = 0 then
   C64_0 (F 284 2) (Wd S L F G h) (fun v w1 => ∃ (F4 : Nat → Nat → Int), v = none ∧ w1 = (Wd S L F4 G h) ∧
    Q (none) (Wd S L F4 G h))
  else
   Q (none) (Wd S L F G h))
 else
  C63_0 97 108 (Wd S L F G h) (fun v w1 => ∃ (v5 : Int), v = some (vi v5) ∧ w1 = (Wd S L F G h) ∧
   (R32 v5 ∧
   (if v5 = 0 then
    (if (F 284 7) = 0 then
     C64_0 (F 284 2) (Wd S L F G h) (fun v w1 => ∃ (F9 : Nat → Nat → Int), v = none ∧ w1 = (Wd S L F9 G h) ∧
      Q (none) (Wd S L F9 G h))
    else
     Q (none) (Wd S L F G h))
   else
    ((0 ≤ (F 284 2) ∧ (F 284 2) < 90) ∧
    (0 ≤ (F 284 7) ∧ (F 284 7) < 12) ∧
    C57_21  (Wd S L (am_up (am_up (am_up F 286 (F 284 7).toNat ((F 285 (F 284 2).toNat) - 97)) 284 7 ((F 284 7) + 1)) 284 2 ((F 284 2) + 1)) G h) Q))))))) : C57_21  (Wd S L F G h) Q := by
  obtain ⟨g1, H⟩ := H
  refine pt57 (s' := (27, [some (vr 284)], [vi 6, vi (F 284 7)], (Wd S L F G h))) (by decide) [0, 0, 0] rfl ⟨trivial, ⟨Nat.le_of_ble_eq_true rfl, rfl⟩⟩ ?_
  by_cases c2 : 6 ≤ (F 284 7)
  · rw [if_pos c2] at H
    refine pt57 (s' := (89, [some (vr 284)], [vi (F 284 7)], (Wd S L F G h))) (by decide) [1, 0, 0] rfl ⟨⟨trivial, ⟨⟨g1, (by decide : R32 6)⟩, c2⟩⟩, ⟨Nat.le_of_ble_eq_true rfl, rfl⟩⟩ ?_
    by_cases c3 : (F 284 7) = 0
    · rw [if_pos c3] at H
      refine pt57 (s' := (97, [some (vr 284)], [vi (F 284 2), vr 284], (Wd S L F G h))) (by decide) [0, 0, 0, 0] rfl ⟨⟨trivial, ⟨g1, c3⟩⟩, ⟨Nat.le_of_ble_eq_true rfl, rfl⟩⟩ ?_
      refine wp.cl am_m57 rfl am_m64 5 [vr 284, vi (F 284 2)] [] rfl (Nat.le_of_ble_eq_true rfl) ⟨(Nat.le_of_ble_eq_true rfl), (Nat.le_of_ble_eq_true rfl)⟩ rfl (Nat.le_of_ble_eq_true rfl) rfl (Nat.le_of_ble_eq_true rfl) (Nat.le_of_ble_eq_true rfl) ⟨_, _, rfl, Nat.le_of_ble_eq_true rfl, rfl⟩ ?_
      refine wp.mono H ?_
      rintro v w1 ⟨F4, rfl, rfl, H⟩
      show wp 7 57 (100, [some (vr 284)], [], (Wd S L F4 G h)) _
      exact wp.fin (v := none) (by decide) am_m57 rfl ⟨rfl, rfl, rfl⟩ H
    · rw [if_neg c3] at H
      refine pt57 (s' := (100, [some (vr 284)], [], (Wd S L F G h))) (by decide) [1] rfl ⟨trivial, ⟨g1, c3⟩⟩ ?_
      exact wp.fin (v := none) (by decide) am_m57 rfl ⟨rfl, rfl, rfl⟩ H
  · rw [if_neg c2] at H
    refine pt57 (s' := (35, [some (vr 284)], [vi 108, vi 97, vr 284], (Wd S L F G h))) (by decide) [0, 0, 0, 0] rfl ⟨trivial, ⟨⟨g1, (by decide : R32 6)⟩, c2⟩⟩ ?_
    refine wp.cl am_m57 rfl am_m63 5 [vr 284, vi 97, vi 108] [] rfl (Nat.le_of_ble_eq_true rfl) ⟨(Nat.le_of_ble_eq_true rfl), (Nat.le_of_ble_eq_true rfl)⟩ rfl (Nat.le_of_ble_eq_true rfl) rfl (Nat.le_of_ble_eq_true rfl) (Nat.le_of_ble_eq_true rfl) ⟨_, _, rfl, Nat.le_of_ble_eq_true rfl, rfl⟩ ?_
    refine wp.mono H ?_
    rintro v w1 ⟨v5, rfl, rfl, H⟩
    show wp 7 57 (38, [some (vr 284)], [vi v5], (Wd S L F G h)) _
    obtain ⟨g6, H⟩ := H
    by_cases c7 : v5 = 0
    · rw [if_pos c7] at H
      refine pt57 (s' := (89, [some (vr 284)], [vi (F 284 7)], (Wd S L F G h))) (by decide) [1, 0, 0] rfl ⟨⟨trivial, ⟨g6, c7⟩⟩, ⟨Nat.le_of_ble_eq_true rfl, rfl⟩⟩ ?_
      by_cases c8 : (F 284 7) = 0
      · rw [if_pos c8] at H
        refine pt57 (s' := (97, [some (vr 284)], [vi (F 284 2), vr 284], (Wd S L F G h))) (by decide) [0, 0, 0, 0] rfl ⟨⟨trivial, ⟨g1, c8⟩⟩, ⟨Nat.le_of_ble_eq_true rfl, rfl⟩⟩ ?_
        refine wp.cl am_m57 rfl am_m64 5 [vr 284, vi (F 284 2)] [] rfl (Nat.le_of_ble_eq_true rfl) ⟨(Nat.le_of_ble_eq_true rfl), (Nat.le_of_ble_eq_true rfl)⟩ rfl (Nat.le_of_ble_eq_true rfl) rfl (Nat.le_of_ble_eq_true rfl) (Nat.le_of_ble_eq_true rfl) ⟨_, _, rfl, Nat.le_of_ble_eq_true rfl, rfl⟩ ?_
        refine wp.mono H ?_
        rintro v w1 ⟨F9, rfl, rfl, H⟩
        show wp 7 57 (100, [some (vr 284)], [], (Wd S L F9 G h)) _
        exact wp.fin (v := none) (by decide) am_m57 rfl ⟨rfl, rfl, rfl⟩ H
      · rw [if_neg c8] at H
        refine pt57 (s' := (100, [some (vr 284)], [], (Wd S L F G h))) (by decide) [1] rfl ⟨trivial, ⟨g1, c8⟩⟩ ?_
        exact wp.fin (v := none) (by decide) am_m57 rfl ⟨rfl, rfl, rfl⟩ H
    · rw [if_neg c7] at H
      obtain ⟨g10, H⟩ := H
      obtain ⟨g11, H⟩ := H
      refine pt57 (s' := (21, [some (vr 284)], [], (Wd S L (am_up (am_up (am_up F 286 (F 284 7).toNat ((F 285 (F 284 2).toNat) - 97)) 284 7 ((F 284 7) + 1)) 284 2 ((F 284 2) + 1)) G h))) (by decide) [0, 0, 286, 0, 0, 0, 285, 0, 0, 0, 0, 0, 0, 0, 0, 0, 0, 0, 0, 0, 0, 0, 0, 0, 0, 0] rfl ⟨⟨⟨⟨⟨⟨⟨⟨⟨⟨⟨trivial, ⟨g6, c7⟩⟩, ⟨Nat.le_of_ble_eq_true rfl, rfl, hh _ _ _ rfl⟩⟩, ⟨Nat.le_of_ble_eq_true rfl, rfl⟩⟩, ⟨Nat.le_of_ble_eq_true rfl, rfl, hh _ _ _ rfl⟩⟩, ⟨Nat.le_of_ble_eq_true rfl, rfl⟩⟩, (ix ⟨Nat.le_of_ble_eq_true rfl, rfl⟩ g10)⟩, (ix ⟨Nat.le_of_ble_eq_true rfl, rfl⟩ g11)⟩, ⟨Nat.le_of_ble_eq_true rfl, rfl⟩⟩, ⟨Nat.le_of_ble_eq_true rfl, rfl, fun h => by cases h⟩⟩, ⟨Nat.le_of_ble_eq_true rfl, rfl⟩⟩, ⟨Nat.le_of_ble_eq_true rfl, rfl, fun h => by cases h⟩⟩ ?_
      exact wp.weak (a := [some (vr 284)]) ⟨rfl, trivial⟩ H
set_option maxRecDepth 100000 in
set_option maxHeartbeats 4000000 in
theorem T58_0 {S L : Nat} {F G : Nat → Nat → Int} {h : Nat → Nat → Option Nat} (hh : RfH h)   {Q : Option V2 → W2 → Prop}
    (H : C61_0  (Wd S L F G h) (fun v w1 => ∃ (v1 : Int) (F2 : Nat → Nat → Int), v = some (vi v1) ∧ w1 = (Wd S L F2 G h) ∧
  C59_0 47 (Wd S L (am_up F2 284 8 v1) G h) (fun v w1 => ∃ (F3 : Nat → Nat → Int), v = none ∧ w1 = (Wd S L F3 G h) ∧
   C60_0 1 2 (Wd S L F3 G h) (fun v w1 => ∃ (v4 : Int) (F5 : Nat → Nat → Int), v = some (vi v4) ∧ w1 = (Wd S L F5 G h) ∧
    Q (none) (Wd S L (am_up F5 284 9 v4) G h))))) : C58_0  (Wd S L F G h) Q := by
  refine pt58 (s' := (2, [some (vr 284)], [vr 284, vr 284], (Wd S L F G h))) (by decide) [0, 0] rfl trivial ?_
  refine wp.cl am_m58 rfl am_m61 7 [vr 284] [vr 284] rfl (Nat.le_of_ble_eq_true rfl) ⟨(Nat.le_of_ble_eq_true rfl), (Nat.le_of_ble_eq_true rfl)⟩ rfl (Nat.le_of_ble_eq_true rfl) rfl (Nat.le_of_ble_eq_true rfl) (Nat.le_of_ble_eq_true rfl) ⟨_, _, rfl, Nat.le_of_ble_eq_true rfl, rfl⟩ ?_
  refine wp.mono H ?_
  rintro v w1 ⟨v1, F2, rfl, rfl, H⟩
  show wp 8 58 (5, [some (vr 284)], [vi v1, vr 284], (Wd S L F2 G h)) _
  refine pt58 (s' := (11, [some (vr 284)], [vi 47, vr 284], (Wd S L (am_up F2 284 8 v1) G h))) (by decide) [0, 0, 0] rfl ⟨trivial, ⟨Nat.le_of_ble_eq_true rfl, rfl, fun h => by cases h⟩⟩ ?_
  refine wp.cl am_m58 rfl am_m59 6 [vr 284, vi 47] [] rfl (Nat.le_of_ble_eq_true rfl) ⟨(Nat.le_of_ble_eq_true rfl), (Nat.le_of_ble_eq_true rfl)⟩ rfl (Nat.le_of_ble_eq_true rfl) rfl (Nat.le_of_ble_eq_true rfl) (Nat.le_of_ble_eq_true rfl) ⟨_, _, rfl, Nat.le_of_ble_eq_true rfl, rfl⟩ ?_
  refine wp.mono H ?_
  rintro v w1 ⟨F3, rfl, rfl, H⟩
  show wp 8 58 (14, [some (vr 284)], [], (Wd S L F3 G h)) _
  refine pt58 (s' := (18, [some (vr 284)], [vi 2, vi 1, vr 284, vr 284], (Wd S L F3 G h))) (by decide) [0, 0, 0, 0] rfl trivial ?_
  refine wp.cl am_m58 rfl am_m60 6 [vr 284, vi 1, vi 2] [vr 284] rfl (Nat.le_of_ble_eq_true rfl) ⟨(Nat.le_of_ble_eq_true rfl), (Nat.le_of_ble_eq_true rfl)⟩ rfl (Nat.le_of_ble_eq_true rfl) rfl (Nat.le_of_ble_eq_true rfl) (Nat.le_of_ble_eq_true rfl) ⟨_, _, rfl, Nat.le_of_ble_eq_true rfl, rfl⟩ ?_
  refine wp.mono H ?_
  rintro v w1 ⟨v4, F5, rfl, rfl, H⟩
  show wp 8 58 (21, [some (vr 284)], [vi v4, vr 284], (Wd S L F5 G h)) _
  refine pt58 (s' := (24, [some (vr 284)], [], (Wd S L (am_up F5 284 9 v4) G h))) (by decide) [0] rfl ⟨trivial, ⟨Nat.le_of_ble_eq_true rfl, rfl, fun h => by cases h⟩⟩ ?_
  exact wp.fin (v := none) (by decide) am_m58 rfl ⟨rfl, rfl, rfl⟩ H
set_option maxRecDepth 100000 in
set_option maxHeartbeats 4000000 in
theorem T59_0 {S L : Nat} {F G : Nat → Nat → Int} {h : Nat → Nat → Option Nat} (hh : RfH h) {a1 : Int}  {Q : Option V2 → W2 → Prop}
    (H : C62_0  (Wd S L F G h) (fun v w1 => ∃ (F1 : Nat → Nat → Int), v = none ∧ w1 = (Wd S L F1 G h) ∧
  C63_0 a1 a1 (Wd S L F1 G h) (fun v w1 => ∃ (v2 : Int), v = some (vi v2) ∧ w1 = (Wd S L F1 G h) ∧
   (R32 v2 ∧
   (if v2 = 0 then
    C64_0 (F1 284 2) (Wd S L F1 G h) (fun v w1 => ∃ (F5 : Nat → Nat → Int), v = none ∧ w1 = (Wd S L F5 G h) ∧
     Q (none) (Wd S L F5 G h))
   else
    Q (none) (Wd S L (am_up F1 284 2 ((F1 284 2) + 1)) G h)))))) : C59_0 a1 (Wd S L F G h) Q := by
  refine pt59 (s' := (1, [some (vr 284), some (vi a1)], [vr 284], (Wd S L F G h))) (by decide) [0] rfl trivial ?_
  refine wp.cl am_m59 rfl am_m62 5 [vr 284] [] rfl (Nat.le_of_ble_eq_true rfl) ⟨(Nat.le_of_ble_eq_true rfl), (Nat.le_of_ble_eq_true rfl)⟩ rfl (Nat.le_of_ble_eq_true rfl) rfl (Nat.le_of_ble_eq_true rfl) (Nat.le_of_ble_eq_true rfl) ⟨_, _, rfl, Nat.le_of_ble_eq_true rfl, rfl⟩ ?_
  refine wp.mono H ?_
  rintro v w1 ⟨F1, rfl, rfl, H⟩
  show wp 6 59 (4, [some (vr 284), some (vi a1)], [], (Wd S L F1 G h)) _
  refine pt59 (s' := (7, [some (vr 284), some (vi a1)], [vi a1, vi a1, vr 284], (Wd S L F1 G h))) (by decide) [0, 0, 0] rfl trivial ?_
  refine wp.cl am_m59 rfl am_m63 5 [vr 284, vi a1, vi a1] [] rfl (Nat.le_of_ble_eq_true rfl) ⟨(Nat.le_of_ble_eq_true rfl), (Nat.le_of_ble_eq_true rfl)⟩ rfl (Nat.le_of_ble_eq_true rfl) rfl (Nat.le_of_ble_eq_true rfl) (Nat.le_of_ble_eq_true rfl) ⟨_, _, rfl, Nat.le_of_ble_eq_true rfl, rfl⟩ ?_
  refine wp.mono H ?_
  rintro v w1 ⟨v2, rfl, rfl, H⟩
  show wp 6 59 (10, [some (vr 284), some (vi a1)], [vi v2], (Wd S L F1 G h)) _
  obtain ⟨g3, H⟩ := H
  by_cases c4 : v2 = 0
  · rw [if_pos c4] at H
    refine pt59 (s' := (31, [some (vr 284), some (vi a1)], [vi (F1 284 2), vr 284], (Wd S L F1 G h))) (by decide) [1, 0, 0, 0] rfl ⟨⟨trivial, ⟨g3, c4⟩⟩, ⟨Nat.le_of_ble_eq_true rfl, rfl⟩⟩ ?_
    refine wp.cl am_m59 rfl am_m64 5 [vr 284, vi (F1 284 2)] [] rfl (Nat.le_of_ble_eq_true rfl) ⟨(Nat.le_of_ble_eq_true rfl), (Nat.le_of_ble_eq_true rfl)⟩ rfl (Nat.le_of_ble_eq_true rfl) rfl (Nat.le_of_ble_eq_true rfl) (Nat.le_of_ble_eq_true rfl) ⟨_, _, rfl, Nat.le_of_ble_eq_true rfl, rfl⟩ ?_
    refine wp.mono H ?_
    rintro v w1 ⟨F5, rfl, rfl, H⟩
    show wp 6 59 (34, [some (vr 284), some (vi a1)], [], (Wd S L F5 G h)) _
    exact wp.fin (v := none) (by decide) am_m59 rfl ⟨rfl, rfl, rfl⟩ H
  · rw [if_neg c4] at H
    refine pt59 (s' := (34, [some (vr 284), some (vi a1)], [], (Wd S L (am_up F1 284 2 ((F1 284 2) + 1)) G h))) (by decide) [0, 0, 0, 0, 0, 0, 0, 0] rfl ⟨⟨⟨trivial, ⟨g3, c4⟩⟩, ⟨Nat.le_of_ble_eq_true rfl, rfl⟩⟩, ⟨Nat.le_of_ble_eq_true rfl, rfl, fun h => by cases h⟩⟩ ?_
    exact wp.fin (v := none) (by decide) am_m59 rfl ⟨rfl, rfl, rfl⟩ H
set_option maxRecDepth 100000 in
set_option maxHeartbeats 4000000 in
theorem T60_0 {S L : Nat} {F G : Nat → Nat → Int} {h : Nat → Nat → Option Nat} (hh : RfH h) {a1 : Int} {a2 : Int}  {Q : Option V2 → W2 → Prop}
    (H : C62_0  (Wd S L F G h) (fun v w1 => ∃ (F1 : Nat → Nat → Int), v = none ∧ w1 = (Wd S L F1 G h) ∧
  C63_0 (48 + a1) (48 + a2) (Wd S L F1 G h) (fun v w1 => ∃ (v2 : Int), v = some (vi v2) ∧ w1 = (Wd S L F1 G h) ∧
   (R32 v2 ∧
   (if v2 = 0 then
    C64_0 (F1 284 2) (Wd S L F1 G h) (fun v w1 => ∃ (F5 : Nat → Nat → Int), v = none ∧ w1 = (Wd S L F5 G h) ∧
     Q (some (vi a1)) (Wd S L F5 G h))
   else
    ((0 ≤ (((F1 284 2) + 1) - 1) ∧ (((F1 284 2) + 1) - 1) < 90) ∧
    Q (some (vi ((F1 285 (((F1 284 2) + 1) - 1).toNat) - 48))) (Wd S L (am_up F1 284 2 ((F1 284 2) + 1)) G h))))))) : C60_0 a1 a2 (Wd S L F G h) Q := by
  refine pt60 (s' := (1, [some (vr 284), some (vi a1), some (vi a2)], [vr 284], (Wd S L F G h))) (by decide) [0] rfl trivial ?_
  refine wp.cl am_m60 rfl am_m62 5 [vr 284] [] rfl (Nat.le_of_ble_eq_true rfl) ⟨(Nat.le_of_ble_eq_true rfl), (Nat.le_of_ble_eq_true rfl)⟩ rfl (Nat.le_of_ble_eq_true rfl) rfl (Nat.le_of_ble_eq_true rfl) (Nat.le_of_ble_eq_true rfl) ⟨_, _, rfl, Nat.le_of_ble_eq_true rfl, rfl⟩ ?_
  refine wp.mono H ?_
  rintro v w1 ⟨F1, rfl, rfl, H⟩
  show wp 6 60 (4, [some (vr 284), some (vi a1), some (vi a2)], [], (Wd S L F1 G h)) _
  refine pt60 (s' := (13, [some (vr 284), some (vi a1), some (vi a2)], [vi (48 + a2), vi (48 + a1), vr 284], (Wd S L F1 G h))) (by decide) [0, 0, 0, 0, 0, 0, 0] rfl trivial ?_
  refine wp.cl am_m60 rfl am_m63 5 [vr 284, vi (48 + a1), vi (48 + a2)] [] rfl (Nat.le_of_ble_eq_true rfl) ⟨(Nat.le_of_ble_eq_true rfl), (Nat.le_of_ble_eq_true rfl)⟩ rfl (Nat.le_of_ble_eq_true rfl) rfl (Nat.le_of_ble_eq_true rfl) (Nat.le_of_ble_eq_true rfl) ⟨_, _, rfl, Nat.le_of_ble_eq_true rfl, rfl⟩ ?_
  refine wp.mono H ?_
  rintro v w1 ⟨v2, rfl, rfl, H⟩
  show wp 6 60 (16, [some (vr 284), some (vi a1), some (vi a2)], [vi v2], (Wd S L F1 G h)) _
  obtain ⟨g3, H⟩ := H
  by_cases c4 : v2 = 0
  · rw [if_pos c4] at H
    refine pt60 (s' := (24, [some (vr 284), some (vi a1), some (vi a2)], [vi (F1 284 2), vr 284], (Wd S L F1 G h))) (by decide) [0, 0, 0, 0] rfl ⟨⟨trivial, ⟨g3, c4⟩⟩, ⟨Nat.le_of_ble_eq_true rfl, rfl⟩⟩ ?_
    refine wp.cl am_m60 rfl am_m64 5 [vr 284, vi (F1 284 2)] [] rfl (Nat.le_of_ble_eq_true rfl) ⟨(Nat.le_of_ble_eq_true rfl), (Nat.le_of_ble_eq_true rfl)⟩ rfl (Nat.le_of_ble_eq_true rfl) rfl (Nat.le_of_ble_eq_true rfl) (Nat.le_of_ble_eq_true rfl) ⟨_, _, rfl, Nat.le_of_ble_eq_true rfl, rfl⟩ ?_
    refine wp.mono H ?_
    rintro v w1 ⟨F5, rfl, rfl, H⟩
    show wp 6 60 (27, [some (vr 284), some (vi a1), some (vi a2)], [], (Wd S L F5 G h)) _
    refine pt60 (s' := (28, [some (vr 284), some (vi a1), some (vi a2)], [vi a1], (Wd S L F5 G h))) (by decide) [0] rfl trivial ?_
    exact wp.fin (v := some (vi a1)) (by decide) am_m60 rfl ⟨_, rfl, Or.inl rfl, rfl⟩ H
  · rw [if_neg c4] at H
    obtain ⟨g6, H⟩ := H
    refine pt60 (s' := (53, [some (vr 284), some (vi a1), some (vi a2)], [vi ((F1 285 (((F1 284 2) + 1) - 1).toNat) - 48)], (Wd S L (am_up F1 284 2 ((F1 284 2) + 1)) G h))) (by decide) [1, 0, 0, 0, 0, 0, 0, 0, 285, 0, 0, 0, 0, 0, 0, 0] rfl ⟨⟨⟨⟨⟨⟨trivial, ⟨g3, c4⟩⟩, ⟨Nat.le_of_ble_eq_true rfl, rfl⟩⟩, ⟨Nat.le_of_ble_eq_true rfl, rfl, fun h => by cases h⟩⟩, ⟨Nat.le_of_ble_eq_true rfl, rfl, hh _ _ _ rfl⟩⟩, ⟨Nat.le_of_ble_eq_true rfl, rfl⟩⟩, (ix ⟨Nat.le_of_ble_eq_true rfl, rfl⟩ g6)⟩ ?_
    exact wp.fin (v := some (vi ((F1 285 (((F1 284 2) + 1) - 1).toNat) - 48))) (by decide) am_m60 rfl ⟨_, rfl, Or.inl rfl, rfl⟩ H
set_option maxRecDepth 100000 in
set_option maxHeartbeats 4000000 in
theorem T61_0 {S L : Nat} {F G : Nat → Nat → Int} {h : Nat → Nat → Option Nat} (hh : RfH h)   {Q : Option V2 → W2 → Prop}
    (H : C60_0 0 9 (Wd S L F G h) (fun v w1 => ∃ (v1 : Int) (F2 : Nat → Nat → Int), v = some (vi v1) ∧ w1 = (Wd S L F2 G h) ∧
  C63_0 48 57 (Wd S L F2 G h) (fun v w1 => ∃ (v3 : Int), v = some (vi v3) ∧ w1 = (Wd S L F2 G h) ∧
   (R32 v3 ∧
   (if v3 = 0 then
    (R32 v1 ∧
    (if v1 < 1 then
     C64_0 ((F2 284 2) - 1) (Wd S L F2 G h) (fun v w1 => ∃ (F8 : Nat → Nat → Int), v = none ∧ w1 = (Wd S L F8 G h) ∧
      Q (some (vi v1)) (Wd S L F8 G h))
    else
     (if 12 < v1 then
      C64_0 ((F2 284 2) - 1) (Wd S L F2 G h) (fun v w1 => ∃ (F10 : Nat → Nat → Int), v = none ∧ w1 = (Wd S L F10 G h) ∧
       Q (some (vi v1)) (Wd S L F10 G h))
     else
      Q (some (vi v1)) (Wd S L F2 G h))))
   else
    ((0 ≤ (F2 284 2) ∧ (F2 284 2) < 90) ∧
    R32 (((10 * v1) + (F2 285 (F2 284 2).toNat)) - 48) ∧
    (if (((10 * v1) + (F2 285 (F2 284 2).toNat)) - 48) < 1 then
     C64_0 ((F2 284 2) - 1) (Wd S L (am_up F2 284 2 ((F2 284 2) + 1)) G h) (fun v w1 => ∃ (F14 : Nat → Nat → Int), v = none ∧ w1 = (Wd S L F14 G h) ∧
      Q (some (vi (((10 * v1) + (F2 285 (F2 284 2).toNat)) - 48))) (Wd S L F14 G h))
    else
     (if 12 < (((10 * v1) + (F2 285 (F2 284 2).toNat)) - 48) then
      C64_0 ((F2 284 2) - 1) (Wd S L (am_up F2 284 2 ((F2 284 2) + 1)) G h) (fun v w1 => ∃ (F16 : Nat → Nat → Int), v = none ∧ w1 = (Wd S L F16 G h) ∧
       Q (some (vi (((10 * v1) + (F2 285 (F2 284 2).toNat)) - 48))) (Wd S L F16 G h))
     else
      Q (some (vi (((10 * v1) + (F2 285 (F2 284 2).toNat)) - 48))) (Wd S L (am_up F2 284 2 ((F2 284 2) + 1)) G h))))))))) : C61_0  (Wd S L F G h) Q := by
  refine pt61 (s' := (4, [some (vr 284), none, none], [vi 9, vi 0, vr 284], (Wd S L F G h))) (by decide) [0, 0, 0] rfl trivial ?_
  refine wp.cl am_m61 rfl am_m60 6 [vr 284, vi 0, vi 9] [] rfl (Nat.le_of_ble_eq_true rfl) ⟨(Nat.le_of_ble_eq_true rfl), (Nat.le_of_ble_eq_true rfl)⟩ rfl (Nat.le_of_ble_eq_true rfl) rfl (Nat.le_of_ble_eq_true rfl) (Nat.le_of_ble_eq_true rfl) ⟨_, _, rfl, Nat.le_of_ble_eq_true rfl, rfl⟩ ?_
  refine wp.mono H ?_
  rintro v w1 ⟨v1, F2, rfl, rfl, H⟩
  show wp 7 61 (7, [some (vr 284), none, none], [vi v1], (Wd S L F2 G h)) _
  refine pt61 (s' := (20, [some (vr 284), some (vi v1), some (vi ((F2 284 2) - 1))], [vi 57, vi 48, vr 284], (Wd S L F2 G h))) (by decide) [0, 0, 0, 0, 0, 0, 0, 0, 0] rfl ⟨trivial, ⟨Nat.le_of_ble_eq_true rfl, rfl⟩⟩ ?_
  refine wp.cl am_m61 rfl am_m63 5 [vr 284, vi 48, vi 57] [] rfl (Nat.le_of_ble_eq_true rfl) ⟨(Nat.le_of_ble_eq_true rfl), (Nat.le_of_ble_eq_true rfl)⟩ rfl (Nat.le_of_ble_eq_true rfl) rfl (Nat.le_of_ble_eq_true rfl) (Nat.le_of_ble_eq_true rfl) ⟨_, _, rfl, Nat.le_of_ble_eq_true rfl, rfl⟩ ?_
  refine wp.mono H ?_
  rintro v w1 ⟨v3, rfl, rfl, H⟩
  show wp 7 61 (23, [some (vr 284), some (vi v1), some (vi ((F2 284 2) - 1))], [vi v3], (Wd S L F2 G h)) _
  obtain ⟨g4, H⟩ := H
  by_cases c5 : v3 = 0
  · rw [if_pos c5] at H
    refine pt61 (s' := (58, [some (vr 284), some (vi v1), some (vi ((F2 284 2) - 1))], [vi 12, vi 1, vi v1], (Wd S L F2 G h))) (by decide) [1, 0, 0, 0] rfl ⟨trivial, ⟨g4, c5⟩⟩ ?_
    refine wp.cl am_m61 rfl am_m101 6 [vi v1, vi 1, vi 12] [] rfl (Nat.le_of_ble_eq_true rfl) ⟨(Nat.le_of_ble_eq_true rfl), (Nat.le_of_ble_eq_true rfl)⟩ rfl (Nat.le_of_ble_eq_true rfl) rfl (Nat.le_of_ble_eq_true rfl) (Nat.le_of_ble_eq_true rfl) trivial ?_
    obtain ⟨g6, H⟩ := H
    refine pt101 (s' := (2, [some (vi v1), some (vi 1), some (vi 12)], [vi 1, vi v1], (Wd S L F2 G h))) (by decide) [0, 0] rfl trivial ?_
    by_cases c7 : v1 < 1
    · rw [if_pos c7] at H
      refine pt101 (s' := (15, [some (vi v1), some (vi 1), some (vi 12)], [vi 0], (Wd S L F2 G h))) (by decide) [1, 0] rfl ⟨trivial, ⟨⟨g6, (by decide : R32 1)⟩, c7⟩⟩ ?_
      refine wp.fin (v := some (vi 0)) (by decide) am_m101 rfl ⟨_, rfl, Or.inr ⟨rfl, Or.inl rfl⟩, rfl⟩ ?_
      show wp 7 61 (61, [some (vr 284), some (vi v1), some (vi ((F2 284 2) - 1))], [vi 0], (Wd S L F2 G h)) _
      refine pt61 (s' := (66, [some (vr 284), some (vi v1), some (vi ((F2 284 2) - 1))], [vi ((F2 284 2) - 1), vr 284], (Wd S L F2 G h))) (by decide) [0, 0, 0] rfl ⟨trivial, ⟨(by decide : R32 0), (by decide : (0 : Int) = (0 : Int))⟩⟩ ?_
      refine wp.cl am_m61 rfl am_m64 5 [vr 284, vi ((F2 284 2) - 1)] [] rfl (Nat.le_of_ble_eq_true rfl) ⟨(Nat.le_of_ble_eq_true rfl), (Nat.le_of_ble_eq_true rfl)⟩ rfl (Nat.le_of_ble_eq_true rfl) rfl (Nat.le_of_ble_eq_true rfl) (Nat.le_of_ble_eq_true rfl) ⟨_, _, rfl, Nat.le_of_ble_eq_true rfl, rfl⟩ ?_
      refine wp.mono H ?_
      rintro v w1 ⟨F8, rfl, rfl, H⟩
      show wp 7 61 (69, [some (vr 284), some (vi v1), some (vi ((F2 284 2) - 1))], [], (Wd S L F8 G h)) _
      refine pt61 (s' := (70, [some (vr 284), some (vi v1), some (vi ((F2 284 2) - 1))], [vi v1], (Wd S L F8 G h))) (by decide) [0] rfl trivial ?_
      exact wp.fin (v := some (vi v1)) (by decide) am_m61 rfl ⟨_, rfl, Or.inl rfl, rfl⟩ H
    · rw [if_neg c7] at H
      refine pt101 (s' := (7, [some (vi v1), some (vi 1), some (vi 12)], [vi 12, vi v1], (Wd S L F2 G h))) (by decide) [0, 0, 0] rfl ⟨trivial, ⟨⟨g6, (by decide : R32 1)⟩, c7⟩⟩ ?_
      by_cases c9 : 12 < v1
      · rw [if_pos c9] at H
        refine pt101 (s' := (15, [some (vi v1), some (vi 1), some (vi 12)], [vi 0], (Wd S L F2 G h))) (by decide) [1, 0] rfl ⟨trivial, ⟨⟨g6, (by decide : R32 12)⟩, c9⟩⟩ ?_
        refine wp.fin (v := some (vi 0)) (by decide) am_m101 rfl ⟨_, rfl, Or.inr ⟨rfl, Or.inl rfl⟩, rfl⟩ ?_
        show wp 7 61 (61, [some (vr 284), some (vi v1), some (vi ((F2 284 2) - 1))], [vi 0], (Wd S L F2 G h)) _
        refine pt61 (s' := (66, [some (vr 284), some (vi v1), some (vi ((F2 284 2) - 1))], [vi ((F2 284 2) - 1), vr 284], (Wd S L F2 G h))) (by decide) [0, 0, 0] rfl ⟨trivial, ⟨(by decide : R32 0), (by decide : (0 : Int) = (0 : Int))⟩⟩ ?_
        refine wp.cl am_m61 rfl am_m64 5 [vr 284, vi ((F2 284 2) - 1)] [] rfl (Nat.le_of_ble_eq_true rfl) ⟨(Nat.le_of_ble_eq_true rfl), (Nat.le_of_ble_eq_true rfl)⟩ rfl (Nat.le_of_ble_eq_true rfl) rfl (Nat.le_of_ble_eq_true rfl) (Nat.le_of_ble_eq_true rfl) ⟨_, _, rfl, Nat.le_of_ble_eq_true rfl, rfl⟩ ?_
        refine wp.mono H ?_
        rintro v w1 ⟨F10, rfl, rfl, H⟩
        show wp 7 61 (69, [some (vr 284), some (vi v1), some (vi ((F2 284 2) - 1))], [], (Wd S L F10 G h)) _
        refine pt61 (s' := (70, [some (vr 284), some (vi v1), some (vi ((F2 284 2) - 1))], [vi v1], (Wd S L F10 G h))) (by decide) [0] rfl trivial ?_
        exact wp.fin (v := some (vi v1)) (by decide) am_m61 rfl ⟨_, rfl, Or.inl rfl, rfl⟩ H
      · rw [if_neg c9] at H
        refine pt101 (s' := (15, [some (vi v1), some (vi 1), some (vi 12)], [vi 1], (Wd S L F2 G h))) (by decide) [0, 0, 0] rfl ⟨trivial, ⟨⟨g6, (by decide : R32 12)⟩, c9⟩⟩ ?_
        refine wp.fin (v := some (vi 1)) (by decide) am_m101 rfl ⟨_, rfl, Or.inr ⟨rfl, Or.inr rfl⟩, rfl⟩ ?_
        show wp 7 61 (61, [some (vr 284), some (vi v1), some (vi ((F2 284 2) - 1))], [vi 1], (Wd S L F2 G h)) _
        refine pt61 (s' := (70, [some (vr 284), some (vi v1), some (vi ((F2 284 2) - 1))], [vi v1], (Wd S L F2 G h))) (by decide) [1, 0] rfl ⟨trivial, ⟨(by decide : R32 1), (by decide : ¬ (1 : Int) = (0 : Int))⟩⟩ ?_
        exact wp.fin (v := some (vi v1)) (by decide) am_m61 rfl ⟨_, rfl, Or.inl rfl, rfl⟩ H
  · rw [if_neg c5] at H
    obtain ⟨g11, H⟩ := H
    refine pt61 (s' := (58, [some (vr 284), some (vi (((10 * v1) + (F2 285 (F2 284 2).toNat)) - 48)), some (vi ((F2 284 2) - 1))], [vi 12, vi 1, vi (((10 * v1) + (F2 285 (F2 284 2).toNat)) - 48)], (Wd S L (am_up F2 284 2 ((F2 284 2) + 1)) G h))) (by decide) [0, 0, 0, 0, 0, 285, 0, 0, 0, 0, 0, 0, 0, 0, 0, 0, 0, 0, 0, 0, 0, 0] rfl ⟨⟨⟨⟨⟨⟨trivial, ⟨g4, c5⟩⟩, ⟨Nat.le_of_ble_eq_true rfl, rfl, hh _ _ _ rfl⟩⟩, ⟨Nat.le_of_ble_eq_true rfl, rfl⟩⟩, (ix ⟨Nat.le_of_ble_eq_true rfl, rfl⟩ g11)⟩, ⟨Nat.le_of_ble_eq_true rfl, rfl⟩⟩, ⟨Nat.le_of_ble_eq_true rfl, rfl, fun h => by cases h⟩⟩ ?_
    refine wp.cl am_m61 rfl am_m101 6 [vi (((10 * v1) + (F2 285 (F2 284 2).toNat)) - 48), vi 1, vi 12] [] rfl (Nat.le_of_ble_eq_true rfl) ⟨(Nat.le_of_ble_eq_true rfl), (Nat.le_of_ble_eq_true rfl)⟩ rfl (Nat.le_of_ble_eq_true rfl) rfl (Nat.le_of_ble_eq_true rfl) (Nat.le_of_ble_eq_true rfl) trivial ?_
    obtain ⟨g12, H⟩ := H
    refine pt101 (s' := (2, [some (vi (((10 * v1) + (F2 285 (F2 284 2).toNat)) - 48)), some (vi 1), some (vi 12)], [vi 1, vi (((10 * v1) + (F2 285 (F2 284 2).toNat)) - 48)], (Wd S L (am_up F2 284 2 ((F2 284 2) + 1)) G h))) (by decide) [0, 0] rfl trivial ?_
    by_cases c13 : (((10 * v1) + (F2 285 (F2 284 2).toNat)) - 48) < 1
    · rw [if_pos c13] at H
      refine pt101 (s' := (15, [some (vi (((10 * v1) + (F2 285 (F2 284 2).toNat)) - 48)), some (vi 1), some (vi 12)], [vi 0], (Wd S L (am_up F2 284 2 ((F2 284 2) + 1)) G h))) (by decide) [1, 0] rfl ⟨trivial, ⟨⟨g12, (by decide : R32 1)⟩, c13⟩⟩ ?_
      refine wp.fin (v := some (vi 0)) (by decide) am_m101 rfl ⟨_, rfl, Or.inr ⟨rfl, Or.inl rfl⟩, rfl⟩ ?_
      show wp 7 61 (61, [some (vr 284), some (vi (((10 * v1) + (F2 285 (F2 284 2).toNat)) - 48)), some (vi ((F2 284 2) - 1))], [vi 0], (Wd S L (am_up F2 284 2 ((F2 284 2) + 1)) G h)) _
      refine pt61 (s' := (66, [some (vr 284), some (vi (((10 * v1) + (F2 285 (F2 284 2).toNat)) - 48)), some (vi ((F2 284 2) - 1))], [vi ((F2 284 2) - 1), vr 284], (Wd S L (am_up F2 284 2 ((F2 284 2) + 1)) G h))) (by decide) [0, 0, 0] rfl ⟨trivial, ⟨(by decide : R32 0), (by decide : (0 : Int) = (0 : Int))⟩⟩ ?_
      refine wp.cl am_m61 rfl am_m64 5 [vr 284, vi ((F2 284 2) - 1)] [] rfl (Nat.le_of_ble_eq_true rfl) ⟨(Nat.le_of_ble_eq_true rfl), (Nat.le_of_ble_eq_true rfl)⟩ rfl (Nat.le_of_ble_eq_true rfl) rfl (Nat.le_of_ble_eq_true rfl) (Nat.le_of_ble_eq_true rfl) ⟨_, _, rfl, Nat.le_of_ble_eq_true rfl, rfl⟩ ?_
      refine wp.mono H ?_
      rintro v w1 ⟨F14, rfl, rfl, H⟩
      show wp 7 61 (69, [some (vr 284), some (vi (((10 * v1) + (F2 285 (F2 284 2).toNat)) - 48)), some (vi ((F2 284 2) - 1))], [], (Wd S L F14 G h)) _
      refine pt61 (s' := (70, [some (vr 284), some (vi (((10 * v1) + (F2 285 (F2 284 2).toNat)) - 48)), some (vi ((F2 284 2) - 1))], [vi (((10 * v1) + (F2 285 (F2 284 2).toNat)) - 48)], (Wd S L F14 G h))) (by decide) [0] rfl trivial ?_
      exact wp.fin (v := some (vi (((10 * v1) + (F2 285 (F2 284 2).toNat)) - 48))) (by decide) am_m61 rfl ⟨_, rfl, Or.inl rfl, rfl⟩ H
    · rw [if_neg c13] at H
      refine pt101 (s' := (7, [some (vi (((10 * v1) + (F2 285 (F2 284 2).toNat)) - 48)), some (vi 1), some (vi 12)], [vi 12, vi (((10 * v1) + (F2 285 (F2 284 2).toNat)) - 48)], (Wd S L (am_up F2 284 2 ((F2 284 2) + 1)) G h))) (by decide) [0, 0, 0] rfl ⟨trivial, ⟨⟨g12, (by decide : R32 1)⟩, c13⟩⟩ ?_
      by_cases c15 : 12 < (((10 * v1) + (F2 285 (F2 284 2).toNat)) - 48)
      · rw [if_pos c15] at H
        refine pt101 (s' := (15, [some (vi (((10 * v1) + (F2 285 (F2 284 2).toNat)) - 48)), some (vi 1), some (vi 12)], [vi 0], (Wd S L (am_up F2 284 2 ((F2 284 2) + 1)) G h))) (by decide) [1, 0] rfl ⟨trivial, ⟨⟨g12, (by decide : R32 12)⟩, c15⟩⟩ ?_
        refine wp.fin (v := some (vi 0)) (by decide) am_m101 rfl ⟨_, rfl, Or.inr ⟨rfl, Or.inl rfl⟩, rfl⟩ ?_
        show wp 7 61 (61, [some (vr 284), some (vi (((10 * v1) + (F2 285 (F2 284 2).toNat)) - 48)), some (vi ((F2 284 2) - 1))], [vi 0], (Wd S L (am_up F2 284 2 ((F2 284 2) + 1)) G h)) _
        refine pt61 (s' := (66, [some (vr 284), some (vi (((10 * v1) + (F2 285 (F2 284 2).toNat)) - 48)), some (vi ((F2 284 2) - 1))], [vi ((F2 284 2) - 1), vr 284], (Wd S L (am_up F2 284 2 ((F2 284 2) + 1)) G h))) (by decide) [0, 0, 0] rfl ⟨trivial, ⟨(by decide : R32 0), (by decide : (0 : Int) = (0 : Int))⟩⟩ ?_
        refine wp.cl am_m61 rfl am_m64 5 [vr 284, vi ((F2 284 2) - 1)] [] rfl (Nat.le_of_ble_eq_true rfl) ⟨(Nat.le_of_ble_eq_true rfl), (Nat.le_of_ble_eq_true rfl)⟩ rfl (Nat.le_of_ble_eq_true rfl) rfl (Nat.le_of_ble_eq_true rfl) (Nat.le_of_ble_eq_true rfl) ⟨_, _, rfl, Nat.le_of_ble_eq_true rfl, rfl⟩ ?_
        refine wp.mono H ?_
        rintro v w1 ⟨F16, rfl, rfl, H⟩
        show wp 7 61 (69, [some (vr 284), some (vi (((10 * v1) + (F2 285 (F2 284 2).toNat)) - 48)), some (vi ((F2 284 2) - 1))], [], (Wd S L F16 G h)) _
        refine pt61 (s' := (70, [some (vr 284), some (vi (((10 * v1) + (F2 285 (F2 284 2).toNat)) - 48)), some (vi ((F2 284 2) - 1))], [vi (((10 * v1) + (F2 285 (F2 284 2).toNat)) - 48)], (Wd S L F16 G h))) (by decide) [0] rfl trivial ?_
        exact wp.fin (v := some (vi (((10 * v1) + (F2 285 (F2 284 2).toNat)) - 48))) (by decide) am_m61 rfl ⟨_, rfl, Or.inl rfl, rfl⟩ H
      · rw [if_neg c15] at H
        refine pt101 (s' := (15, [some (vi (((10 * v1) + (F2 285 (F2 284 2).toNat)) - 48)), some (vi 1), some (vi 12)], [vi 1], (Wd S L (am_up F2 284 2 ((F2 284 2) + 1)) G h))) (by decide) [0, 0, 0] rfl ⟨trivial, ⟨⟨g12, (by decide : R32 12)⟩, c15⟩⟩ ?_
        refine wp.fin (v := some (vi 1)) (by decide) am_m101 rfl ⟨_, rfl, Or.inr ⟨rfl, Or.inr rfl⟩, rfl⟩ ?_
        show wp 7 61 (61, [some (vr 284), some (vi (((10 * v1) + (F2 285 (F2 284 2).toNat)) - 48)), some (vi ((F2 284 2) - 1))], [vi 1], (Wd S L (am_up F2 284 2 ((F2 284 2) + 1)) G h)) _
        refine pt61 (s' := (70, [some (vr 284), some (vi (((10 * v1) + (F2 285 (F2 284 2).toNat)) - 48)), some (vi ((F2 284 2) - 1))], [vi (((10 * v1) + (F2 285 (F2 284 2).toNat)) - 48)], (Wd S L (am_up F2 284 2 ((F2 284 2) + 1)) G h))) (by decide) [1, 0] rfl ⟨trivial, ⟨(by decide : R32 1), (by decide : ¬ (1 : Int) = (0 : Int))⟩⟩ ?_
        exact wp.fin (v := some (vi (((10 * v1) + (F2 285 (F2 284 2).toNat)) - 48))) (by decide) am_m61 rfl ⟨_, rfl, Or.inl rfl, rfl⟩ H
set_option maxRecDepth 100000 in
set_option maxHeartbeats 4000000 in
theorem T62_0 {S L : Nat} {F G : Nat → Nat → Int} {h : Nat → Nat → Option Nat} (hh : RfH h)   {Q : Option V2 → W2 → Prop}
    (H : (R32 (F 284 2) ∧
 R32 (F 284 1) ∧
 (if (F 284 1) ≤ (F 284 2) then
  Q (none) (Wd S L F G h)
 else
  ((0 ≤ (F 284 2) ∧ (F 284 2) < 90) ∧
  R32 (F 285 (F 284 2).toNat) ∧
  (if (F 285 (F 284 2).toNat) = 32 then
   C62_0  (Wd S L (am_up F 284 2 ((F 284 2) + 1)) G h) Q
  else
   Q (none) (Wd S L F G h)))))) : C62_0  (Wd S L F G h) Q := by
  obtain ⟨g1, H⟩ := H
  obtain ⟨g2, H⟩ := H
  refine pt62 (s' := (8, [some (vr 284)], [vi (F 284 1), vi (F 284 2)], (Wd S L F G h))) (by decide) [0, 0, 0, 0] rfl ⟨⟨trivial, ⟨Nat.le_of_ble_eq_true rfl, rfl⟩⟩, ⟨Nat.le_of_ble_eq_true rfl, rfl⟩⟩ ?_
  by_cases c3 : (F 284 1) ≤ (F 284 2)
  · rw [if_pos c3] at H
    refine pt62 (s' := (38, [some (vr 284)], [], (Wd S L F G h))) (by decide) [1] rfl ⟨trivial, ⟨⟨g1, g2⟩, c3⟩⟩ ?_
    exact wp.fin (v := none) (by decide) am_m62 rfl ⟨rfl, rfl, rfl⟩ H
  · rw [if_neg c3] at H
    obtain ⟨g4, H⟩ := H
    obtain ⟨g5, H⟩ := H
    refine pt62 (s' := (22, [some (vr 284)], [vi 32, vi (F 285 (F 284 2).toNat)], (Wd S L F G h))) (by decide) [0, 0, 285, 0, 0, 0, 0] rfl ⟨⟨⟨⟨trivial, ⟨⟨g1, g2⟩, c3⟩⟩, ⟨Nat.le_of_ble_eq_true rfl, rfl, hh _ _ _ rfl⟩⟩, ⟨Nat.le_of_ble_eq_true rfl, rfl⟩⟩, (ix ⟨Nat.le_of_ble_eq_true rfl, rfl⟩ g4)⟩ ?_
    by_cases c6 : (F 285 (F 284 2).toNat) = 32
    · rw [if_pos c6] at H
      refine pt62 (s' := (0, [some (vr 284)], [], (Wd S L (am_up F 284 2 ((F 284 2) + 1)) G h))) (by decide) [0, 0, 0, 0, 0, 0, 0, 0] rfl ⟨⟨⟨trivial, ⟨⟨g5, (by decide : R32 32)⟩, c6⟩⟩, ⟨Nat.le_of_ble_eq_true rfl, rfl⟩⟩, ⟨Nat.le_of_ble_eq_true rfl, rfl, fun h => by cases h⟩⟩ ?_
      exact wp.weak (a := [some (vr 284)]) ⟨rfl, trivial⟩ H
    · rw [if_neg c6] at H
      refine pt62 (s' := (38, [some (vr 284)], [], (Wd S L F G h))) (by decide) [1] rfl ⟨trivial, ⟨⟨g5, (by decide : R32 32)⟩, c6⟩⟩ ?_
      exact wp.fin (v := none) (by decide) am_m62 rfl ⟨rfl, rfl, rfl⟩ H
set_option maxRecDepth 100000 in
set_option maxHeartbeats 4000000 in
theorem T63_0 {S L : Nat} {F G : Nat → Nat → Int} {h : Nat → Nat → Option Nat} (hh : RfH h) {a1 : Int} {a2 : Int}  {Q : Option V2 → W2 → Prop}
    (H : (R32 (F 284 2) ∧
 R32 (F 284 1) ∧
 (if (F 284 1) ≤ (F 284 2) then
  Q (some (vi 0)) (Wd S L F G h)
 else
  ((0 ≤ (F 284 2) ∧ (F 284 2) < 90) ∧
  R32 (F 285 (F 284 2).toNat) ∧
  R32 a1 ∧
  (if (F 285 (F 284 2).toNat) < a1 then
   Q (some (vi 0)) (Wd S L F G h)
  else
   (R32 a2 ∧
   (if a2 < (F 285 (F 284 2).toNat) then
    Q (some (vi 0)) (Wd S L F G h)
   else
    Q (some (vi 1)) (Wd S L F G h)))))))) : C63_0 a1 a2 (Wd S L F G h) Q := by
  obtain ⟨g1, H⟩ := H
  obtain ⟨g2, H⟩ := H
  refine pt63 (s' := (8, [some (vr 284), some (vi a1), some (vi a2)], [vi (F 284 1), vi (F 284 2)], (Wd S L F G h))) (by decide) [0, 0, 0, 0] rfl ⟨⟨trivial, ⟨Nat.le_of_ble_eq_true rfl, rfl⟩⟩, ⟨Nat.le_of_ble_eq_true rfl, rfl⟩⟩ ?_
  by_cases c3 : (F 284 1) ≤ (F 284 2)
  · rw [if_pos c3] at H
    refine pt63 (s' := (42, [some (vr 284), some (vi a1), some (vi a2)], [vi 0], (Wd S L F G h))) (by decide) [1, 0] rfl ⟨trivial, ⟨⟨g1, g2⟩, c3⟩⟩ ?_
    exact wp.fin (v := some (vi 0)) (by decide) am_m63 rfl ⟨_, rfl, Or.inr ⟨rfl, Or.inl rfl⟩, rfl⟩ H
  · rw [if_neg c3] at H
    obtain ⟨g4, H⟩ := H
    obtain ⟨g5, H⟩ := H
    obtain ⟨g6, H⟩ := H
    refine pt63 (s' := (21, [some (vr 284), some (vi a1), some (vi a2)], [vi a1, vi (F 285 (F 284 2).toNat)], (Wd S L F G h))) (by decide) [0, 0, 285, 0, 0, 0, 0] rfl ⟨⟨⟨⟨trivial, ⟨⟨g1, g2⟩, c3⟩⟩, ⟨Nat.le_of_ble_eq_true rfl, rfl, hh _ _ _ rfl⟩⟩, ⟨Nat.le_of_ble_eq_true rfl, rfl⟩⟩, (ix ⟨Nat.le_of_ble_eq_true rfl, rfl⟩ g4)⟩ ?_
    by_cases c7 : (F 285 (F 284 2).toNat) < a1
    · rw [if_pos c7] at H
      refine pt63 (s' := (42, [some (vr 284), some (vi a1), some (vi a2)], [vi 0], (Wd S L F G h))) (by decide) [1, 0] rfl ⟨trivial, ⟨⟨g5, g6⟩, c7⟩⟩ ?_
      exact wp.fin (v := some (vi 0)) (by decide) am_m63 rfl ⟨_, rfl, Or.inr ⟨rfl, Or.inl rfl⟩, rfl⟩ H
    · rw [if_neg c7] at H
      obtain ⟨g8, H⟩ := H
      refine pt63 (s' := (34, [some (vr 284), some (vi a1), some (vi a2)], [vi a2, vi (F 285 (F 284 2).toNat)], (Wd S L F G h))) (by decide) [0, 0, 285, 0, 0, 0, 0] rfl ⟨⟨⟨⟨trivial, ⟨⟨g5, g6⟩, c7⟩⟩, ⟨Nat.le_of_ble_eq_true rfl, rfl, hh _ _ _ rfl⟩⟩, ⟨Nat.le_of_ble_eq_true rfl, rfl⟩⟩, (ix ⟨Nat.le_of_ble_eq_true rfl, rfl⟩ g4)⟩ ?_
      by_cases c9 : a2 < (F 285 (F 284 2).toNat)
      · rw [if_pos c9] at H
        refine pt63 (s' := (42, [some (vr 284), some (vi a1), some (vi a2)], [vi 0], (Wd S L F G h))) (by decide) [1, 0] rfl ⟨trivial, ⟨⟨g5, g8⟩, c9⟩⟩ ?_
        exact wp.fin (v := some (vi 0)) (by decide) am_m63 rfl ⟨_, rfl, Or.inr ⟨rfl, Or.inl rfl⟩, rfl⟩ H
      · rw [if_neg c9] at H
        refine pt63 (s' := (42, [some (vr 284), some (vi a1), some (vi a2)], [vi 1], (Wd S L F G h))) (by decide) [0, 0, 0] rfl ⟨trivial, ⟨⟨g5, g8⟩, c9⟩⟩ ?_
        exact wp.fin (v := some (vi 1)) (by decide) am_m63 rfl ⟨_, rfl, Or.inr ⟨rfl, Or.inr rfl⟩, rfl⟩ H
set_option maxRecDepth 100000 in
set_option maxHeartbeats 4000000 in
theorem T64_0 {S L : Nat} {F G : Nat → Nat → Int} {h : Nat → Nat → Option Nat} (hh : RfH h) {a1 : Int}  {Q : Option V2 → W2 → Prop}
    (H : (R32 (F 284 3) ∧
 (if 0 ≤ (F 284 3) then
  Q (none) (Wd S L F G h)
 else
  Q (none) (Wd S L (am_up F 284 3 a1) G h)))) : C64_0 a1 (Wd S L F G h) Q := by
  obtain ⟨g1, H⟩ := H
  refine pt64 (s' := (4, [some (vr 284), some (vi a1)], [vi (F 284 3)], (Wd S L F G h))) (by decide) [0, 0] rfl ⟨trivial, ⟨Nat.le_of_ble_eq_true rfl, rfl⟩⟩ ?_
  by_cases c2 : 0 ≤ (F 284 3)
  · rw [if_pos c2] at H
    refine pt64 (s' := (12, [some (vr 284), some (vi a1)], [], (Wd S L F G h))) (by decide) [1] rfl ⟨trivial, ⟨g1, c2⟩⟩ ?_
    exact wp.fin (v := none) (by decide) am_m64 rfl ⟨rfl, rfl, rfl⟩ H
  · rw [if_neg c2] at H
    refine pt64 (s' := (12, [some (vr 284), some (vi a1)], [], (Wd S L (am_up F 284 3 a1) G h))) (by decide) [0, 0, 0, 0] rfl ⟨⟨trivial, ⟨g1, c2⟩⟩, ⟨Nat.le_of_ble_eq_true rfl, rfl, fun h => by cases h⟩⟩ ?_
    exact wp.fin (v := none) (by decide) am_m64 rfl ⟨rfl, rfl, rfl⟩ H
set_option maxRecDepth 100000 in
set_option maxHeartbeats 4000000 in
theorem T66_0 {S L : Nat} {F G : Nat → Nat → Int} {h : Nat → Nat → Option Nat} (hh : RfH h) {a1 : Int} {a2 : Int} {a3 : Int}  {Q : Option V2 → W2 → Prop}
    (H : C24_0 19 1 (Wd S L F G h) (fun v w1 => ∃ (F1 : Nat → Nat → Int), v = none ∧ w1 = (Wd S L F1 G h) ∧
  C30_0 a1 a2 a3 (Wd S L F1 G h) (fun v w1 => ∃ (v2 : Int) (F3 : Nat → Nat → Int), v = some (vi v2) ∧ w1 = (Wd S L F3 G h) ∧
   (R32 v2 ∧
   (if v2 < 0 then
    Q (some (vi v2)) (Wd S L F3 G h)
   else
    C14_0 19 (Wd S L F3 G h) (fun v w1 => ∃ (F6 : Nat → Nat → Int) (h7 : Nat → Nat → Option Nat), v = none ∧ w1 = (Wd S L F6 G h7) ∧ RfH h7 ∧
     Q (some (vi v2)) (Wd S L F6 G h7))))))) : C66_0 a1 a2 a3 (Wd S L F G h) Q := by
  refine pt66 (s' := (8, [some (vr 0), some (vi a1), some (vi a2), some (vi a3)], [vr 1, vr 19], (Wd S L F G h))) (by decide) [0, 19, 0, 1] rfl ⟨⟨trivial, ⟨Nat.le_of_ble_eq_true rfl, rfl, hh _ _ _ rfl⟩⟩, ⟨Nat.le_of_ble_eq_true rfl, rfl, hh _ _ _ rfl⟩⟩ ?_
  refine wp.cl am_m66 rfl am_m24 6 [vr 19, vr 1] [] rfl (Nat.le_of_ble_eq_true rfl) ⟨(Nat.le_of_ble_eq_true rfl), (Nat.le_of_ble_eq_true rfl)⟩ rfl (Nat.le_of_ble_eq_true rfl) rfl (Nat.le_of_ble_eq_true rfl) (Nat.le_of_ble_eq_true rfl) ⟨_, _, rfl, Nat.le_of_ble_eq_true rfl, rfl⟩ ?_
  refine wp.mono H ?_
  rintro v w1 ⟨F1, rfl, rfl, H⟩
  show wp 9 66 (11, [some (vr 0), some (vi a1), some (vi a2), some (vi a3)], [], (Wd S L F1 G h)) _
  refine pt66 (s' := (19, [some (vr 0), some (vi a1), some (vi a2), some (vi a3)], [vi a3, vi a2, vi a1, vr 1, vr 0], (Wd S L F1 G h))) (by decide) [0, 0, 1, 0, 0, 0] rfl ⟨trivial, ⟨Nat.le_of_ble_eq_true rfl, rfl, hh _ _ _ rfl⟩⟩ ?_
  refine wp.cl am_m66 rfl am_m30 7 [vr 1, vi a1, vi a2, vi a3] [vr 0] rfl (Nat.le_of_ble_eq_true rfl) ⟨(Nat.le_of_ble_eq_true rfl), (Nat.le_of_ble_eq_true rfl)⟩ rfl (Nat.le_of_ble_eq_true rfl) rfl (Nat.le_of_ble_eq_true rfl) (Nat.le_of_ble_eq_true rfl) ⟨_, _, rfl, Nat.le_of_ble_eq_true rfl, rfl⟩ ?_
  refine wp.mono H ?_
  rintro v w1 ⟨v2, F3, rfl, rfl, H⟩
  show wp 9 66 (22, [some (vr 0), some (vi a1), some (vi a2), some (vi a3)], [vi v2, vr 0], (Wd S L F3 G h)) _
  refine wp.cl am_m66 rfl am_m98 8 [vr 0, vi v2] [] rfl (Nat.le_of_ble_eq_true rfl) ⟨(Nat.le_of_ble_eq_true rfl), (Nat.le_of_ble_eq_true rfl)⟩ rfl (Nat.le_of_ble_eq_true rfl) rfl (Nat.le_of_ble_eq_true rfl) (Nat.le_of_ble_eq_true rfl) ⟨_, _, rfl, Nat.le_of_ble_eq_true rfl, rfl⟩ ?_
  obtain ⟨g4, H⟩ := H
  refine pt98 (s' := (1, [some (vr 0), some (vi v2)], [vi v2], (Wd S L F3 G h))) (by decide) [0] rfl trivial ?_
  by_cases c5 : v2 < 0
  · rw [if_pos c5] at H
    refine pt98 (s' := (16, [some (vr 0), some (vi v2)], [vi v2], (Wd S L F3 G h))) (by decide) [1, 0] rfl ⟨trivial, ⟨g4, c5⟩⟩ ?_
    refine wp.fin (v := some (vi v2)) (by decide) am_m98 rfl ⟨_, rfl, Or.inl rfl, rfl⟩ ?_
    show wp 9 66 (25, [some (vr 0), some (vi a1), some (vi a2), some (vi a3)], [vi v2], (Wd S L F3 G h)) _
    exact wp.fin (v := some (vi v2)) (by decide) am_m66 rfl ⟨_, rfl, Or.inl rfl, rfl⟩ H
  · rw [if_neg c5] at H
    refine pt98 (s' := (12, [some (vr 0), some (vi v2)], [vr 19, vr 37], (Wd S L F3 G h))) (by decide) [0, 0, 37, 0, 19] rfl ⟨⟨⟨trivial, ⟨g4, c5⟩⟩, ⟨Nat.le_of_ble_eq_true rfl, rfl, hh _ _ _ rfl⟩⟩, ⟨Nat.le_of_ble_eq_true rfl, rfl, hh _ _ _ rfl⟩⟩ ?_
    refine wp.cl am_m98 rfl am_m14 7 [vr 37, vr 19] [] rfl (Nat.le_of_ble_eq_true rfl) ⟨(Nat.le_of_ble_eq_true rfl), (Nat.le_of_ble_eq_true rfl)⟩ rfl (Nat.le_of_ble_eq_true rfl) rfl (Nat.le_of_ble_eq_true rfl) (Nat.le_of_ble_eq_true rfl) ⟨_, _, rfl, Nat.le_of_ble_eq_true rfl, rfl⟩ ?_
    refine wp.mono H ?_
    rintro v w1 ⟨F6, h7, rfl, rfl, r8, H⟩
    show wp 8 98 (15, [some (vr 0), some (vi v2)], [], (Wd S L F6 G h7)) _
    refine pt98 (s' := (16, [some (vr 0), some (vi v2)], [vi v2], (Wd S L F6 G h7))) (by decide) [0] rfl trivial ?_
    refine wp.fin (v := some (vi v2)) (by decide) am_m98 rfl ⟨_, rfl, Or.inl rfl, rfl⟩ ?_
    show wp 9 66 (25, [some (vr 0), some (vi a1), some (vi a2), some (vi a3)], [vi v2], (Wd S L F6 G h7)) _
    exact wp.fin (v := some (vi v2)) (by decide) am_m66 rfl ⟨_, rfl, Or.inl rfl, rfl⟩ H
set_option maxRecDepth 100000 in
set_option maxHeartbeats 4000000 in
theorem T67_0 {S L : Nat} {F G : Nat → Nat → Int} {h : Nat → Nat → Option Nat} (hh : RfH h) {a1 : Int} {a2 : Int} {a3 : Int}  {Q : Option V2 → W2 → Prop}
    (H : C24_0 19 1 (Wd S L F G h) (fun v w1 => ∃ (F1 : Nat → Nat → Int), v = none ∧ w1 = (Wd S L F1 G h) ∧
  C31_0 a1 a2 a3 (Wd S L F1 G h) (fun v w1 => ∃ (v2 : Int) (F3 : Nat → Nat → Int), v = some (vi v2) ∧ w1 = (Wd S L F3 G h) ∧
   (R32 v2 ∧
   (if v2 < 0 then
    Q (some (vi v2)) (Wd S L F3 G h)
   else
    C14_0 19 (Wd S L F3 G h) (fun v w1 => ∃ (F6 : Nat → Nat → Int) (h7 : Nat → Nat → Option Nat), v = none ∧ w1 = (Wd S L F6 G h7) ∧ RfH h7 ∧
     Q (some (vi v2)) (Wd S L F6 G h7))))))) : C67_0 a1 a2 a3 (Wd S L F G h) Q := by
  refine pt67 (s' := (8, [some (vr 0), some (vi a1), some (vi a2), some (vi a3)], [vr 1, vr 19], (Wd S L F G h))) (by decide) [0, 19, 0, 1] rfl ⟨⟨trivial, ⟨Nat.le_of_ble_eq_true rfl, rfl, hh _ _ _ rfl⟩⟩, ⟨Nat.le_of_ble_eq_true rfl, rfl, hh _ _ _ rfl⟩⟩ ?_
  refine wp.cl am_m67 rfl am_m24 6 [vr 19, vr 1] [] rfl (Nat.le_of_ble_eq_true rfl) ⟨(Nat.le_of_ble_eq_true rfl), (Nat.le_of_ble_eq_true rfl)⟩ rfl (Nat.le_of_ble_eq_true rfl) rfl (Nat.le_of_ble_eq_true rfl) (Nat.le_of_ble_eq_true rfl) ⟨_, _, rfl, Nat.le_of_ble_eq_true rfl, rfl⟩ ?_
  refine wp.mono H ?_
  rintro v w1 ⟨F1, rfl, rfl, H⟩
  show wp 9 67 (11, [some (vr 0), some (vi a1), some (vi a2), some (vi a3)], [], (Wd S L F1 G h)) _
  refine pt67 (s' := (19, [some (vr 0), some (vi a1), some (vi a2), some (vi a3)], [vi a3, vi a2, vi a1, vr 1, vr 0], (Wd S L F1 G h))) (by decide) [0, 0, 1, 0, 0, 0] rfl ⟨trivial, ⟨Nat.le_of_ble_eq_true rfl, rfl, hh _ _ _ rfl⟩⟩ ?_
  refine wp.cl am_m67 rfl am_m31 7 [vr 1, vi a1, vi a2, vi a3] [vr 0] rfl (Nat.le_of_ble_eq_true rfl) ⟨(Nat.le_of_ble_eq_true rfl), (Nat.le_of_ble_eq_true rfl)⟩ rfl (Nat.le_of_ble_eq_true rfl) rfl (Nat.le_of_ble_eq_true rfl) (Nat.le_of_ble_eq_true rfl) ⟨_, _, rfl, Nat.le_of_ble_eq_true rfl, rfl⟩ ?_
  refine wp.mono H ?_
  rintro v w1 ⟨v2, F3, rfl, rfl, H⟩
  show wp 9 67 (22, [some (vr 0), some (vi a1), some (vi a2), some (vi a3)], [vi v2, vr 0], (Wd S L F3 G h)) _
  refine wp.cl am_m67 rfl am_m98 8 [vr 0, vi v2] [] rfl (Nat.le_of_ble_eq_true rfl) ⟨(Nat.le_of_ble_eq_true rfl), (Nat.le_of_ble_eq_true rfl)⟩ rfl (Nat.le_of_ble_eq_true rfl) rfl (Nat.le_of_ble_eq_true rfl) (Nat.le_of_ble_eq_true rfl) ⟨_, _, rfl, Nat.le_of_ble_eq_true rfl, rfl⟩ ?_
  obtain ⟨g4, H⟩ := H
  refine pt98 (s' := (1, [some (vr 0), some (vi v2)], [vi v2], (Wd S L F3 G h))) (by decide) [0] rfl trivial ?_
  by_cases c5 : v2 < 0
  · rw [if_pos c5] at H
    refine pt98 (s' := (16, [some (vr 0), some (vi v2)], [vi v2], (Wd S L F3 G h))) (by decide) [1, 0] rfl ⟨trivial, ⟨g4, c5⟩⟩ ?_
    refine wp.fin (v := some (vi v2)) (by decide) am_m98 rfl ⟨_, rfl, Or.inl rfl, rfl⟩ ?_
    show wp 9 67 (25, [some (vr 0), some (vi a1), some (vi a2), some (vi a3)], [vi v2], (Wd S L F3 G h)) _
    exact wp.fin (v := some (vi v2)) (by decide) am_m67 rfl ⟨_, rfl, Or.inl rfl, rfl⟩ H
  · rw [if_neg c5] at H
    refine pt98 (s' := (12, [some (vr 0), some (vi v2)], [vr 19, vr 37], (Wd S L F3 G h))) (by decide) [0, 0, 37, 0, 19] rfl ⟨⟨⟨trivial, ⟨g4, c5⟩⟩, ⟨Nat.le_of_ble_eq_true rfl, rfl, hh _ _ _ rfl⟩⟩, ⟨Nat.le_of_ble_eq_true rfl, rfl, hh _ _ _ rfl⟩⟩ ?_
    refine wp.cl am_m98 rfl am_m14 7 [vr 37, vr 19] [] rfl (Nat.le_of_ble_eq_true rfl) ⟨(Nat.le_of_ble_eq_true rfl), (Nat.le_of_ble_eq_true rfl)⟩ rfl (Nat.le_of_ble_eq_true rfl) rfl (Nat.le_of_ble_eq_true rfl) (Nat.le_of_ble_eq_true rfl) ⟨_, _, rfl, Nat.le_of_ble_eq_true rfl, rfl⟩ ?_
    refine wp.mono H ?_
    rintro v w1 ⟨F6, h7, rfl, rfl, r8, H⟩
    show wp 8 98 (15, [some (vr 0), some (vi v2)], [], (Wd S L F6 G h7)) _
    refine pt98 (s' := (16, [some (vr 0), some (vi v2)], [vi v2], (Wd S L F6 G h7))) (by decide) [0] rfl trivial ?_
    refine wp.fin (v := some (vi v2)) (by decide) am_m98 rfl ⟨_, rfl, Or.inl rfl, rfl⟩ ?_
    show wp 9 67 (25, [some (vr 0), some (vi a1), some (vi a2), some (vi a3)], [vi v2], (Wd S L F6 G h7)) _
    exact wp.fin (v := some (vi v2)) (by decide) am_m67 rfl ⟨_, rfl, Or.inl rfl, rfl⟩ H
set_option maxRecDepth 100000 in
set_option maxHeartbeats 4000000 in
theorem T68_0 {S L : Nat} {F G : Nat → Nat → Int} {h : Nat → Nat → Option Nat} (hh : RfH h) {a1 : Int} {a2 : Int}  {Q : Option V2 → W2 → Prop}
    (H : C24_0 19 1 (Wd S L F G h) (fun v w1 => ∃ (F1 : Nat → Nat → Int), v = none ∧ w1 = (Wd S L F1 G h) ∧
  C32_0 a1 a2 (Wd S L F1 G h) (fun v w1 => ∃ (v2 : Int) (F3 : Nat → Nat → Int), v = some (vi v2) ∧ w1 = (Wd S L F3 G h) ∧
   (R32 v2 ∧
   (if v2 < 0 then
    Q (some (vi v2)) (Wd S L F3 G h)
   else
    C14_0 19 (Wd S L F3 G h) (fun v w1 => ∃ (F6 : Nat → Nat → Int) (h7 : Nat → Nat → Option Nat), v = none ∧ w1 = (Wd S L F6 G h7) ∧ RfH h7 ∧
     Q (some (vi v2)) (Wd S L F6 G h7))))))) : C68_0 a1 a2 (Wd S L F G h) Q := by
  refine pt68 (s' := (8, [some (vr 0), some (vi a1), some (vi a2)], [vr 1, vr 19], (Wd S L F G h))) (by decide) [0, 19, 0, 1] rfl ⟨⟨trivial, ⟨Nat.le_of_ble_eq_true rfl, rfl, hh _ _ _ rfl⟩⟩, ⟨Nat.le_of_ble_eq_true rfl, rfl, hh _ _ _ rfl⟩⟩ ?_
  refine wp.cl am_m68 rfl am_m24 6 [vr 19, vr 1] [] rfl (Nat.le_of_ble_eq_true rfl) ⟨(Nat.le_of_ble_eq_true rfl), (Nat.le_of_ble_eq_true rfl)⟩ rfl (Nat.le_of_ble_eq_true rfl) rfl (Nat.le_of_ble_eq_true rfl) (Nat.le_of_ble_eq_true rfl) ⟨_, _, rfl, Nat.le_of_ble_eq_true rfl, rfl⟩ ?_
  refine wp.mono H ?_
  rintro v w1 ⟨F1, rfl, rfl, H⟩
  show wp 10 68 (11, [some (vr 0), some (vi a1), some (vi a2)], [], (Wd S L F1 G h)) _
  refine pt68 (s' := (18, [some (vr 0), some (vi a1), some (vi a2)], [vi a2, vi a1, vr 1, vr 0], (Wd S L F1 G h))) (by decide) [0, 0, 1, 0, 0] rfl ⟨trivial, ⟨Nat.le_of_ble_eq_true rfl, rfl, hh _ _ _ rfl⟩⟩ ?_
  refine wp.cl am_m68 rfl am_m32 9 [vr 1, vi a1, vi a2] [vr 0] rfl (Nat.le_of_ble_eq_true rfl) ⟨(Nat.le_of_ble_eq_true rfl), (Nat.le_of_ble_eq_true rfl)⟩ rfl (Nat.le_of_ble_eq_true rfl) rfl (Nat.le_of_ble_eq_true rfl) (Nat.le_of_ble_eq_true rfl) ⟨_, _, rfl, Nat.le_of_ble_eq_true rfl, rfl⟩ ?_
  refine wp.mono H ?_
  rintro v w1 ⟨v2, F3, rfl, rfl, H⟩
  show wp 10 68 (21, [some (vr 0), some (vi a1), some (vi a2)], [vi v2, vr 0], (Wd S L F3 G h)) _
  refine wp.cl am_m68 rfl am_m98 8 [vr 0, vi v2] [] rfl (Nat.le_of_ble_eq_true rfl) ⟨(Nat.le_of_ble_eq_true rfl), (Nat.le_of_ble_eq_true rfl)⟩ rfl (Nat.le_of_ble_eq_true rfl) rfl (Nat.le_of_ble_eq_true rfl) (Nat.le_of_ble_eq_true rfl) ⟨_, _, rfl, Nat.le_of_ble_eq_true rfl, rfl⟩ ?_
  obtain ⟨g4, H⟩ := H
  refine pt98 (s' := (1, [some (vr 0), some (vi v2)], [vi v2], (Wd S L F3 G h))) (by decide) [0] rfl trivial ?_
  by_cases c5 : v2 < 0
  · rw [if_pos c5] at H
    refine pt98 (s' := (16, [some (vr 0), some (vi v2)], [vi v2], (Wd S L F3 G h))) (by decide) [1, 0] rfl ⟨trivial, ⟨g4, c5⟩⟩ ?_
    refine wp.fin (v := some (vi v2)) (by decide) am_m98 rfl ⟨_, rfl, Or.inl rfl, rfl⟩ ?_
    show wp 10 68 (24, [some (vr 0), some (vi a1), some (vi a2)], [vi v2], (Wd S L F3 G h)) _
    exact wp.fin (v := some (vi v2)) (by decide) am_m68 rfl ⟨_, rfl, Or.inl rfl, rfl⟩ H
  · rw [if_neg c5] at H
    refine pt98 (s' := (12, [some (vr 0), some (vi v2)], [vr 19, vr 37], (Wd S L F3 G h))) (by decide) [0, 0, 37, 0, 19] rfl ⟨⟨⟨trivial, ⟨g4, c5⟩⟩, ⟨Nat.le_of_ble_eq_true rfl, rfl, hh _ _ _ rfl⟩⟩, ⟨Nat.le_of_ble_eq_true rfl, rfl, hh _ _ _ rfl⟩⟩ ?_
    refine wp.cl am_m98 rfl am_m14 7 [vr 37, vr 19] [] rfl (Nat.le_of_ble_eq_true rfl) ⟨(Nat.le_of_ble_eq_true rfl), (Nat.le_of_ble_eq_true rfl)⟩ rfl (Nat.le_of_ble_eq_true rfl) rfl (Nat.le_of_ble_eq_true rfl) (Nat.le_of_ble_eq_true rfl) ⟨_, _, rfl, Nat.le_of_ble_eq_true rfl, rfl⟩ ?_
    refine wp.mono H ?_
    rintro v w1 ⟨F6, h7, rfl, rfl, r8, H⟩
    show wp 8 98 (15, [some (vr 0), some (vi v2)], [], (Wd S L F6 G h7)) _
    refine pt98 (s' := (16, [some (vr 0), some (vi v2)], [vi v2], (Wd S L F6 G h7))) (by decide) [0] rfl trivial ?_
    refine wp.fin (v := some (vi v2)) (by decide) am_m98 rfl ⟨_, rfl, Or.inl rfl, rfl⟩ ?_
    show wp 10 68 (24, [some (vr 0), some (vi a1), some (vi a2)], [vi v2], (Wd S L F6 G h7)) _
    exact wp.fin (v := some (vi v2)) (by decide) am_m68 rfl ⟨_, rfl, Or.inl rfl, rfl⟩ H
set_option maxRecDepth 100000 in
set_option maxHeartbeats 4000000 in
theorem T69_0 {S L : Nat} {F G : Nat → Nat → Int} {h : Nat → Nat → Option Nat} (hh : RfH h) {a1 : Int}  {Q : Option V2 → W2 → Prop}
    (H : C24_0 19 1 (Wd S L F G h) (fun v w1 => ∃ (F1 : Nat → Nat → Int), v = none ∧ w1 = (Wd S L F1 G h) ∧
  C33_0 a1 (Wd S L F1 G h) (fun v w1 => ∃ (v2 : Int) (F3 : Nat → Nat → Int), v = some (vi v2) ∧ w1 = (Wd S L F3 G h) ∧
   (R32 v2 ∧
   (if v2 < 0 then
    Q (some (vi v2)) (Wd S L F3 G h)
   else
    C14_0 19 (Wd S L F3 G h) (fun v w1 => ∃ (F6 : Nat → Nat → Int) (h7 : Nat → Nat → Option Nat), v = none ∧ w1 = (Wd S L F6 G h7) ∧ RfH h7 ∧
     Q (some (vi v2)) (Wd S L F6 G h7))))))) : C69_0 a1 (Wd S L F G h) Q := by
  refine pt69 (s' := (8, [some (vr 0), some (vi a1)], [vr 1, vr 19], (Wd S L F G h))) (by decide) [0, 19, 0, 1] rfl ⟨⟨trivial, ⟨Nat.le_of_ble_eq_true rfl, rfl, hh _ _ _ rfl⟩⟩, ⟨Nat.le_of_ble_eq_true rfl, rfl, hh _ _ _ rfl⟩⟩ ?_
  refine wp.cl am_m69 rfl am_m24 6 [vr 19, vr 1] [] rfl (Nat.le_of_ble_eq_true rfl) ⟨(Nat.le_of_ble_eq_true rfl), (Nat.le_of_ble_eq_true rfl)⟩ rfl (Nat.le_of_ble_eq_true rfl) rfl (Nat.le_of_ble_eq_true rfl) (Nat.le_of_ble_eq_true rfl) ⟨_, _, rfl, Nat.le_of_ble_eq_true rfl, rfl⟩ ?_
  refine wp.mono H ?_
  rintro v w1 ⟨F1, rfl, rfl, H⟩
  show wp 9 69 (11, [some (vr 0), some (vi a1)], [], (Wd S L F1 G h)) _
  refine pt69 (s' := (17, [some (vr 0), some (vi a1)], [vi a1, vr 1, vr 0], (Wd S L F1 G h))) (by decide) [0, 0, 1, 0] rfl ⟨trivial, ⟨Nat.le_of_ble_eq_true rfl, rfl, hh _ _ _ rfl⟩⟩ ?_
  refine wp.cl am_m69 rfl am_m33 7 [vr 1, vi a1] [vr 0] rfl (Nat.le_of_ble_eq_true rfl) ⟨(Nat.le_of_ble_eq_true rfl), (Nat.le_of_ble_eq_true rfl)⟩ rfl (Nat.le_of_ble_eq_true rfl) rfl (Nat.le_of_ble_eq_true rfl) (Nat.le_of_ble_eq_true rfl) ⟨_, _, rfl, Nat.le_of_ble_eq_true rfl, rfl⟩ ?_
  refine wp.mono H ?_
  rintro v w1 ⟨v2, F3, rfl, rfl, H⟩
  show wp 9 69 (20, [some (vr 0), some (vi a1)], [vi v2, vr 0], (Wd S L F3 G h)) _
  refine wp.cl am_m69 rfl am_m98 8 [vr 0, vi v2] [] rfl (Nat.le_of_ble_eq_true rfl) ⟨(Nat.le_of_ble_eq_true rfl), (Nat.le_of_ble_eq_true rfl)⟩ rfl (Nat.le_of_ble_eq_true rfl) rfl (Nat.le_of_ble_eq_true rfl) (Nat.le_of_ble_eq_true rfl) ⟨_, _, rfl, Nat.le_of_ble_eq_true rfl, rfl⟩ ?_
  obtain ⟨g4, H⟩ := H
  refine pt98 (s' := (1, [some (vr 0), some (vi v2)], [vi v2], (Wd S L F3 G h))) (by decide) [0] rfl trivial ?_
  by_cases c5 : v2 < 0
  · rw [if_pos c5] at H
    refine pt98 (s' := (16, [some (vr 0), some (vi v2)], [vi v2], (Wd S L F3 G h))) (by decide) [1, 0] rfl ⟨trivial, ⟨g4, c5⟩⟩ ?_
    refine wp.fin (v := some (vi v2)) (by decide) am_m98 rfl ⟨_, rfl, Or.inl rfl, rfl⟩ ?_
    show wp 9 69 (23, [some (vr 0), some (vi a1)], [vi v2], (Wd S L F3 G h)) _
    exact wp.fin (v := some (vi v2)) (by decide) am_m69 rfl ⟨_, rfl, Or.inl rfl, rfl⟩ H
  · rw [if_neg c5] at H
    refine pt98 (s' := (12, [some (vr 0), some (vi v2)], [vr 19, vr 37], (Wd S L F3 G h))) (by decide) [0, 0, 37, 0, 19] rfl ⟨⟨⟨trivial, ⟨g4, c5⟩⟩, ⟨Nat.le_of_ble_eq_true rfl, rfl, hh _ _ _ rfl⟩⟩, ⟨Nat.le_of_ble_eq_true rfl, rfl, hh _ _ _ rfl⟩⟩ ?_
    refine wp.cl am_m98 rfl am_m14 7 [vr 37, vr 19] [] rfl (Nat.le_of_ble_eq_true rfl) ⟨(Nat.le_of_ble_eq_true rfl), (Nat.le_of_ble_eq_true rfl)⟩ rfl (Nat.le_of_ble_eq_true rfl) rfl (Nat.le_of_ble_eq_true rfl) (Nat.le_of_ble_eq_true rfl) ⟨_, _, rfl, Nat.le_of_ble_eq_true rfl, rfl⟩ ?_
    refine wp.mono H ?_
    rintro v w1 ⟨F6, h7, rfl, rfl, r8, H⟩
    show wp 8 98 (15, [some (vr 0), some (vi v2)], [], (Wd S L F6 G h7)) _
    refine pt98 (s' := (16, [some (vr 0), some (vi v2)], [vi v2], (Wd S L F6 G h7))) (by decide) [0] rfl trivial ?_
    refine wp.fin (v := some (vi v2)) (by decide) am_m98 rfl ⟨_, rfl, Or.inl rfl, rfl⟩ ?_
    show wp 9 69 (23, [some (vr 0), some (vi a1)], [vi v2], (Wd S L F6 G h7)) _
    exact wp.fin (v := some (vi v2)) (by decide) am_m69 rfl ⟨_, rfl, Or.inl rfl, rfl⟩ H
set_option maxRecDepth 100000 in
set_option maxHeartbeats 4000000 in
theorem T70_0 {S L : Nat} {F G : Nat → Nat → Int} {h : Nat → Nat → Option Nat} (hh : RfH h) {a1 : Int} {a2 : Int}  {Q : Option V2 → W2 → Prop}
    (H : C24_0 19 1 (Wd S L F G h) (fun v w1 => ∃ (F1 : Nat → Nat → Int), v = none ∧ w1 = (Wd S L F1 G h) ∧
  C34_0 a1 a2 (Wd S L F1 G h) (fun v w1 => ∃ (v2 : Int) (F3 : Nat → Nat → Int), v = some (vi v2) ∧ w1 = (Wd S L F3 G h) ∧
   (R32 v2 ∧
   (if v2 < 0 then
    Q (some (vi v2)) (Wd S L F3 G h)
   else
    C14_0 19 (Wd S L F3 G h) (fun v w1 => ∃ (F6 : Nat → Nat → Int) (h7 : Nat → Nat → Option Nat), v = none ∧ w1 = (Wd S L F6 G h7) ∧ RfH h7 ∧
     Q (some (vi v2)) (Wd S L F6 G h7))))))) : C70_0 a1 a2 (Wd S L F G h) Q := by
  refine pt70 (s' := (8, [some (vr 0), some (vi a1), some (vi a2)], [vr 1, vr 19], (Wd S L F G h))) (by decide) [0, 19, 0, 1] rfl ⟨⟨trivial, ⟨Nat.le_of_ble_eq_true rfl, rfl, hh _ _ _ rfl⟩⟩, ⟨Nat.le_of_ble_eq_true rfl, rfl, hh _ _ _ rfl⟩⟩ ?_
  refine wp.cl am_m70 rfl am_m24 6 [vr 19, vr 1] [] rfl (Nat.le_of_ble_eq_true rfl) ⟨(Nat.le_of_ble_eq_true rfl), (Nat.le_of_ble_eq_true rfl)⟩ rfl (Nat.le_of_ble_eq_true rfl) rfl (Nat.le_of_ble_eq_true rfl) (Nat.le_of_ble_eq_true rfl) ⟨_, _, rfl, Nat.le_of_ble_eq_true rfl, rfl⟩ ?_
  refine wp.mono H ?_
  rintro v w1 ⟨F1, rfl, rfl, H⟩
  show wp 9 70 (11, [some (vr 0), some (vi a1), some (vi a2)], [], (Wd S L F1 G h)) _
  refine pt70 (s' := (18, [some (vr 0), some (vi a1), some (vi a2)], [vi a2, vi a1, vr 1, vr 0], (Wd S L F1 G h))) (by decide) [0, 0, 1, 0, 0] rfl ⟨trivial, ⟨Nat.le_of_ble_eq_true rfl, rfl, hh _ _ _ rfl⟩⟩ ?_
  refine wp.cl am_m70 rfl am_m34 8 [vr 1, vi a1, vi a2] [vr 0] rfl (Nat.le_of_ble_eq_true rfl) ⟨(Nat.le_of_ble_eq_true rfl), (Nat.le_of_ble_eq_true rfl)⟩ rfl (Nat.le_of_ble_eq_true rfl) rfl (Nat.le_of_ble_eq_true rfl) (Nat.le_of_ble_eq_true rfl) ⟨_, _, rfl, Nat.le_of_ble_eq_true rfl, rfl⟩ ?_
  refine wp.mono H ?_
  rintro v w1 ⟨v2, F3, rfl, rfl, H⟩
  show wp 9 70 (21, [some (vr 0), some (vi a1), some (vi a2)], [vi v2, vr 0], (Wd S L F3 G h)) _
  refine wp.cl am_m70 rfl am_m98 8 [vr 0, vi v2] [] rfl (Nat.le_of_ble_eq_true rfl) ⟨(Nat.le_of_ble_eq_true rfl), (Nat.le_of_ble_eq_true rfl)⟩ rfl (Nat.le_of_ble_eq_true rfl) rfl (Nat.le_of_ble_eq_true rfl) (Nat.le_of_ble_eq_true rfl) ⟨_, _, rfl, Nat.le_of_ble_eq_true rfl, rfl⟩ ?_
  obtain ⟨g4, H⟩ := H
  refine pt98 (s' := (1, [some (vr 0), some (vi v2)], [vi v2], (Wd S L F3 G h))) (by decide) [0] rfl trivial ?_
  by_cases c5 : v2 < 0
  · rw [if_pos c5] at H
    refine pt98 (s' := (16, [some (vr 0), some (vi v2)], [vi v2], (Wd S L F3 G h))) (by decide) [1, 0] rfl ⟨trivial, ⟨g4, c5⟩⟩ ?_
    refine wp.fin (v := some (vi v2)) (by decide) am_m98 rfl ⟨_, rfl, Or.inl rfl, rfl⟩ ?_
    show wp 9 70 (24, [some (vr 0), some (vi a1), some (vi a2)], [vi v2], (Wd S L F3 G h)) _
    exact wp.fin (v := some (vi v2)) (by decide) am_m70 rfl ⟨_, rfl, Or.inl rfl, rfl⟩ H
  · rw [if_neg c5] at H
    refine pt98 (s' := (12, [some (vr 0), some (vi v2)], [vr 19, vr 37], (Wd S L F3 G h))) (by decide) [0, 0, 37, 0, 19] rfl ⟨⟨⟨trivial, ⟨g4, c5⟩⟩, ⟨Nat.le_of_ble_eq_true rfl, rfl, hh _ _ _ rfl⟩⟩, ⟨Nat.le_of_ble_eq_true rfl, rfl, hh _ _ _ rfl⟩⟩ ?_
    refine wp.cl am_m98 rfl am_m14 7 [vr 37, vr 19] [] rfl (Nat.le_of_ble_eq_true rfl) ⟨(Nat.le_of_ble_eq_true rfl), (Nat.le_of_ble_eq_true rfl)⟩ rfl (Nat.le_of_ble_eq_true rfl) rfl (Nat.le_of_ble_eq_true rfl) (Nat.le_of_ble_eq_true rfl) ⟨_, _, rfl, Nat.le_of_ble_eq_true rfl, rfl⟩ ?_
    refine wp.mono H ?_
    rintro v w1 ⟨F6, h7, rfl, rfl, r8, H⟩
    show wp 8 98 (15, [some (vr 0), some (vi v2)], [], (Wd S L F6 G h7)) _
    refine pt98 (s' := (16, [some (vr 0), some (vi v2)], [vi v2], (Wd S L F6 G h7))) (by decide) [0] rfl trivial ?_
    refine wp.fin (v := some (vi v2)) (by decide) am_m98 rfl ⟨_, rfl, Or.inl rfl, rfl⟩ ?_
    show wp 9 70 (24, [some (vr 0), some (vi a1), some (vi a2)], [vi v2], (Wd S L F6 G h7)) _
    exact wp.fin (v := some (vi v2)) (by decide) am_m70 rfl ⟨_, rfl, Or.inl rfl, rfl⟩ H
set_option maxRecDepth 100000 in
set_option maxHeartbeats 4000000 in
theorem T71_0 {S L : Nat} {F G : Nat → Nat → Int} {h : Nat → Nat → Option Nat} (hh : RfH h) {a1 : Int}  {Q : Option V2 → W2 → Prop}
    (H : C24_0 19 1 (Wd S L F G h) (fun v w1 => ∃ (F1 : Nat → Nat → Int), v = none ∧ w1 = (Wd S L F1 G h) ∧
  C35_0 a1 (Wd S L F1 G h) (fun v w1 => ∃ (v2 : Int) (F3 : Nat → Nat → Int), v = some (vi v2) ∧ w1 = (Wd S L F3 G h) ∧
   (R32 v2 ∧
   (if v2 < 0 then
    Q (some (vi v2)) (Wd S L F3 G h)
   else
    C14_0 19 (Wd S L F3 G h) (fun v w1 => ∃ (F6 : Nat → Nat → Int) (h7 : Nat → Nat → Option Nat), v = none ∧ w1 = (Wd S L F6 G h7) ∧ RfH h7 ∧
     Q (some (vi v2)) (Wd S L F6 G h7))))))) : C71_0 a1 (Wd S L F G h) Q := by
  refine pt71 (s' := (8, [some (vr 0), some (vi a1)], [vr 1, vr 19], (Wd S L F G h))) (by decide) [0, 19, 0, 1] rfl ⟨⟨trivial, ⟨Nat.le_of_ble_eq_true rfl, rfl, hh _ _ _ rfl⟩⟩, ⟨Nat.le_of_ble_eq_true rfl, rfl, hh _ _ _ rfl⟩⟩ ?_
  refine wp.cl am_m71 rfl am_m24 6 [vr 19, vr 1] [] rfl (Nat.le_of_ble_eq_true rfl) ⟨(Nat.le_of_ble_eq_true rfl), (Nat.le_of_ble_eq_true rfl)⟩ rfl (Nat.le_of_ble_eq_true rfl) rfl (Nat.le_of_ble_eq_true rfl) (Nat.le_of_ble_eq_true rfl) ⟨_, _, rfl, Nat.le_of_ble_eq_true rfl, rfl⟩ ?_
  refine wp.mono H ?_
  rintro v w1 ⟨F1, rfl, rfl, H⟩
  show wp 9 71 (11, [some (vr 0), some (vi a1)], [], (Wd S L F1 G h)) _
  refine pt71 (s' := (17, [some (vr 0), some (vi a1)], [vi a1, vr 1, vr 0], (Wd S L F1 G h))) (by decide) [0, 0, 1, 0] rfl ⟨trivial, ⟨Nat.le_of_ble_eq_true rfl, rfl, hh _ _ _ rfl⟩⟩ ?_
  refine wp.cl am_m71 rfl am_m35 7 [vr 1, vi a1] [vr 0] rfl (Nat.le_of_ble_eq_true rfl) ⟨(Nat.le_of_ble_eq_true rfl), (Nat.le_of_ble_eq_true rfl)⟩ rfl (Nat.le_of_ble_eq_true rfl) rfl (Nat.le_of_ble_eq_true rfl) (Nat.le_of_ble_eq_true rfl) ⟨_, _, rfl, Nat.le_of_ble_eq_true rfl, rfl⟩ ?_
  refine wp.mono H ?_
  rintro v w1 ⟨v2, F3, rfl, rfl, H⟩
  show wp 9 71 (20, [some (vr 0), some (vi a1)], [vi v2, vr 0], (Wd S L F3 G h)) _
  refine wp.cl am_m71 rfl am_m98 8 [vr 0, vi v2] [] rfl (Nat.le_of_ble_eq_true rfl) ⟨(Nat.le_of_ble_eq_true rfl), (Nat.le_of_ble_eq_true rfl)⟩ rfl (Nat.le_of_ble_eq_true rfl) rfl (Nat.le_of_ble_eq_true rfl) (Nat.le_of_ble_eq_true rfl) ⟨_, _, rfl, Nat.le_of_ble_eq_true rfl, rfl⟩ ?_
  obtain ⟨g4, H⟩ := H
  refine pt98 (s' := (1, [some (vr 0), some (vi v2)], [vi v2], (Wd S L F3 G h))) (by decide) [0] rfl trivial ?_
  by_cases c5 : v2 < 0
  · rw [if_pos c5] at H
    refine pt98 (s' := (16, [some (vr 0), some (vi v2)], [vi v2], (Wd S L F3 G h))) (by decide) [1, 0] rfl ⟨trivial, ⟨g4, c5⟩⟩ ?_
    refine wp.fin (v := some (vi v2)) (by decide) am_m98 rfl ⟨_, rfl, Or.inl rfl, rfl⟩ ?_
    show wp 9 71 (23, [some (vr 0), some (vi a1)], [vi v2], (Wd S L F3 G h)) _
    exact wp.fin (v := some (vi v2)) (by decide) am_m71 rfl ⟨_, rfl, Or.inl rfl, rfl⟩ H
  · rw [if_neg c5] at H
    refine pt98 (s' := (12, [some (vr 0), some (vi v2)], [vr 19, vr 37], (Wd S L F3 G h))) (by decide) [0, 0, 37, 0, 19] rfl ⟨⟨⟨trivial, ⟨g4, c5⟩⟩, ⟨Nat.le_of_ble_eq_true rfl, rfl, hh _ _ _ rfl⟩⟩, ⟨Nat.le_of_ble_eq_true rfl, rfl, hh _ _ _ rfl⟩⟩ ?_
    refine wp.cl am_m98 rfl am_m14 7 [vr 37, vr 19] [] rfl (Nat.le_of_ble_eq_true rfl) ⟨(Nat.le_of_ble_eq_true rfl), (Nat.le_of_ble_eq_true rfl)⟩ rfl (Nat.le_of_ble_eq_true rfl) rfl (Nat.le_of_ble_eq_true rfl) (Nat.le_of_ble_eq_true rfl) ⟨_, _, rfl, Nat.le_of_ble_eq_true rfl, rfl⟩ ?_
    refine wp.mono H ?_
    rintro v w1 ⟨F6, h7, rfl, rfl, r8, H⟩
    show wp 8 98 (15, [some (vr 0), some (vi v2)], [], (Wd S L F6 G h7)) _
    refine pt98 (s' := (16, [some (vr 0), some (vi v2)], [vi v2], (Wd S L F6 G h7))) (by decide) [0] rfl trivial ?_
    refine wp.fin (v := some (vi v2)) (by decide) am_m98 rfl ⟨_, rfl, Or.inl rfl, rfl⟩ ?_
    show wp 9 71 (23, [some (vr 0), some (vi a1)], [vi v2], (Wd S L F6 G h7)) _
    exact wp.fin (v := some (vi v2)) (by decide) am_m71 rfl ⟨_, rfl, Or.inl rfl, rfl⟩ H
set_option maxRecDepth 100000 in
set_option maxHeartbeats 4000000 in
theorem T72_0 {S L : Nat} {F G : Nat → Nat → Int} {h : Nat → Nat → Option Nat} (hh : RfH h) {a1 : Int} {a2 : Int}  {Q : Option V2 → W2 → Prop}
    (H : (R32 a1 ∧
 (if a1 < 0 then
  Q (some (vi (-1))) (Wd S L F G h)
 else
  (if 11 < a1 then
   Q (some (vi (-1))) (Wd S L F G h)
  else
   (R32 a2 ∧
   (if a2 = 0 then
    ((0 ≤ a1 ∧ a1 < 12) ∧
    Q (some (vi (F 4 a1.toNat))) (Wd S L F G h))
   else
   (if a2 = 1 then
    ((0 ≤ a1 ∧ a1 < 12) ∧
    Q (some (vi (F 5 a1.toNat))) (Wd S L F G h))
   else
   (if a2 = 2 then
    C25_0 a1 0 (Wd S L F G h) (fun v w1 => ∃ (v10 : Int), v = some (vi v10) ∧ w1 = (Wd S L F G h) ∧
     Q (some (vi v10)) (Wd S L F G h))
   else
   (if a2 = 3 then
    C25_0 a1 1 (Wd S L F G h) (fun v w1 => ∃ (v12 : Int), v = some (vi v12) ∧ w1 = (Wd S L F G h) ∧
     Q (some (vi v12)) (Wd S L F G h))
   else
   (if a2 = 4 then
    ((0 ≤ a1 ∧ a1 < 12) ∧
    (0 ≤ (F 4 a1.toNat) ∧ (F 4 a1.toNat) < 8) ∧
    R32 (F 2 (F 4 a1.toNat).toNat) ∧
    (if (F 2 (F 4 a1.toNat).toNat) = 0 then
     Q (some (vi 1)) (Wd S L F G h)
    else
     Q (some (vi 0)) (Wd S L F G h)))
   else
   Q (some (vi (-1))) (Wd S L F G h))))))))))) : C72_0 a1 a2 (Wd S L F G h) Q := by
  refine pt72 (s' := (4, [some (vr 0), some (vi a1), some (vi a2)], [vi 11, vi 0, vi a1], (Wd S L F G h))) (by decide) [0, 0, 0] rfl trivial ?_
  refine wp.cl am_m72 rfl am_m101 6 [vi a1, vi 0, vi 11] [] rfl (Nat.le_of_ble_eq_true rfl) ⟨(Nat.le_of_ble_eq_true rfl), (Nat.le_of_ble_eq_true rfl)⟩ rfl (Nat.le_of_ble_eq_true rfl) rfl (Nat.le_of_ble_eq_true rfl) (Nat.le_of_ble_eq_true rfl) trivial ?_
  obtain ⟨g1, H⟩ := H
  refine pt101 (s' := (2, [some (vi a1), some (vi 0), some (vi 11)], [vi 0, vi a1], (Wd S L F G h))) (by decide) [0, 0] rfl trivial ?_
  by_cases c2 : a1 < 0
  · rw [if_pos c2] at H
    refine pt101 (s' := (15, [some (vi a1), some (vi 0), some (vi 11)], [vi 0], (Wd S L F G h))) (by decide) [1, 0] rfl ⟨trivial, ⟨⟨g1, (by decide : R32 0)⟩, c2⟩⟩ ?_
    refine wp.fin (v := some (vi 0)) (by decide) am_m101 rfl ⟨_, rfl, Or.inr ⟨rfl, Or.inl rfl⟩, rfl⟩ ?_
    show wp 7 72 (7, [some (vr 0), some (vi a1), some (vi a2)], [vi 0], (Wd S L F G h)) _
    refine pt72 (s' := (11, [some (vr 0), some (vi a1), some (vi a2)], [vi (-1)], (Wd S L F G h))) (by decide) [0, 0] rfl ⟨trivial, ⟨(by decide : R32 0), (by decide : (0 : Int) = (0 : Int))⟩⟩ ?_
    exact wp.fin (v := some (vi (-1))) (by decide) am_m72 rfl ⟨_, rfl, Or.inl rfl, rfl⟩ H
  · rw [if_neg c2] at H
    refine pt101 (s' := (7, [some (vi a1), some (vi 0), some (vi 11)], [vi 11, vi a1], (Wd S L F G h))) (by decide) [0, 0, 0] rfl ⟨trivial, ⟨⟨g1, (by decide : R32 0)⟩, c2⟩⟩ ?_
    by_cases c3 : 11 < a1
    · rw [if_pos c3] at H
      refine pt101 (s' := (15, [some (vi a1), some (vi 0), some (vi 11)], [vi 0], (Wd S L F G h))) (by decide) [1, 0] rfl ⟨trivial, ⟨⟨g1, (by decide : R32 11)⟩, c3⟩⟩ ?_
      refine wp.fin (v := some (vi 0)) (by decide) am_m101 rfl ⟨_, rfl, Or.inr ⟨rfl, Or.inl rfl⟩, rfl⟩ ?_
      show wp 7 72 (7, [some (vr 0), some (vi a1), some (vi a2)], [vi 0], (Wd S L F G h)) _
      refine pt72 (s' := (11, [some (vr 0), some (vi a1), some (vi a2)], [vi (-1)], (Wd S L F G h))) (by decide) [0, 0] rfl ⟨trivial, ⟨(by decide : R32 0), (by decide : (0 : Int) = (0 : Int))⟩⟩ ?_
      exact wp.fin (v := some (vi (-1))) (by decide) am_m72 rfl ⟨_, rfl, Or.inl rfl, rfl⟩ H
    · rw [if_neg c3] at H
      refine pt101 (s' := (15, [some (vi a1), some (vi 0), some (vi 11)], [vi 1], (Wd S L F G h))) (by decide) [0, 0, 0] rfl ⟨trivial, ⟨⟨g1, (by decide : R32 11)⟩, c3⟩⟩ ?_
      refine wp.fin (v := some (vi 1)) (by decide) am_m101 rfl ⟨_, rfl, Or.inr ⟨rfl, Or.inr rfl⟩, rfl⟩ ?_
      show wp 7 72 (7, [some (vr 0), some (vi a1), some (vi a2)], [vi 1], (Wd S L F G h)) _
      obtain ⟨g4, H⟩ := H
      refine pt72 (s' := (13, [some (vr 0), some (vi a1), some (vi a2)], [vi a2], (Wd S L F G h))) (by decide) [1, 0] rfl ⟨trivial, ⟨(by decide : R32 1), (by decide : ¬ (1 : Int) = (0 : Int))⟩⟩ ?_
      by_cases c5 : a2 = 0
      · rw [if_pos c5] at H
        obtain ⟨g6, H⟩ := H
        refine pt72 (s' := (57, [some (vr 0), some (vi a1), some (vi a2)], [vi (F 4 a1.toNat)], (Wd S L F G h))) (by decide) [1, 0, 1, 4, 0, 0] rfl ⟨⟨⟨⟨trivial, ⟨g4, (by omega : ¬ a2 < 0), (by omega : ¬ 4 < a2), c5⟩⟩, ⟨Nat.le_of_ble_eq_true rfl, rfl, hh _ _ _ rfl⟩⟩, ⟨Nat.le_of_ble_eq_true rfl, rfl, hh _ _ _ rfl⟩⟩, (ix ⟨Nat.le_of_ble_eq_true rfl, rfl⟩ g6)⟩ ?_
        exact wp.fin (v := some (vi (F 4 a1.toNat))) (by decide) am_m72 rfl ⟨_, rfl, Or.inl rfl, rfl⟩ H
      · rw [if_neg c5] at H
        by_cases c7 : a2 = 1
        · rw [if_pos c7] at H
          obtain ⟨g8, H⟩ := H
          refine pt72 (s' := (67, [some (vr 0), some (vi a1), some (vi a2)], [vi (F 5 a1.toNat)], (Wd S L F G h))) (by decide) [2, 0, 1, 5, 0, 0] rfl ⟨⟨⟨⟨trivial, ⟨g4, (by omega : ¬ a2 < 0), (by omega : ¬ 4 < a2), c7⟩⟩, ⟨Nat.le_of_ble_eq_true rfl, rfl, hh _ _ _ rfl⟩⟩, ⟨Nat.le_of_ble_eq_true rfl, rfl, hh _ _ _ rfl⟩⟩, (ix ⟨Nat.le_of_ble_eq_true rfl, rfl⟩ g8)⟩ ?_
          exact wp.fin (v := some (vi (F 5 a1.toNat))) (by decide) am_m72 rfl ⟨_, rfl, Or.inl rfl, rfl⟩ H
        · rw [if_neg c7] at H
          by_cases c9 : a2 = 2
          · rw [if_pos c9] at H
            refine pt72 (s' := (74, [some (vr 0), some (vi a1), some (vi a2)], [vi 0, vi a1, vr 1], (Wd S L F G h))) (by decide) [3, 0, 1, 0, 0] rfl ⟨⟨trivial, ⟨g4, (by omega : ¬ a2 < 0), (by omega : ¬ 4 < a2), c9⟩⟩, ⟨Nat.le_of_ble_eq_true rfl, rfl, hh _ _ _ rfl⟩⟩ ?_
            refine wp.cl am_m72 rfl am_m25 6 [vr 1, vi a1, vi 0] [] rfl (Nat.le_of_ble_eq_true rfl) ⟨(Nat.le_of_ble_eq_true rfl), (Nat.le_of_ble_eq_true rfl)⟩ rfl (Nat.le_of_ble_eq_true rfl) rfl (Nat.le_of_ble_eq_true rfl) (Nat.le_of_ble_eq_true rfl) ⟨_, _, rfl, Nat.le_of_ble_eq_true rfl, rfl⟩ ?_
            refine wp.mono H ?_
            rintro v w1 ⟨v10, rfl, rfl, H⟩
            show wp 7 72 (77, [some (vr 0), some (vi a1), some (vi a2)], [vi v10], (Wd S L F G h)) _
            exact wp.fin (v := some (vi v10)) (by decide) am_m72 rfl ⟨_, rfl, Or.inl rfl, rfl⟩ H
          · rw [if_neg c9] at H
            by_cases c11 : a2 = 3
            · rw [if_pos c11] at H
              refine pt72 (s' := (84, [some (vr 0), some (vi a1), some (vi a2)], [vi 1, vi a1, vr 1], (Wd S L F G h))) (by decide) [4, 0, 1, 0, 0] rfl ⟨⟨trivial, ⟨g4, (by omega : ¬ a2 < 0), (by omega : ¬ 4 < a2), c11⟩⟩, ⟨Nat.le_of_ble_eq_true rfl, rfl, hh _ _ _ rfl⟩⟩ ?_
              refine wp.cl am_m72 rfl am_m25 6 [vr 1, vi a1, vi 1] [] rfl (Nat.le_of_ble_eq_true rfl) ⟨(Nat.le_of_ble_eq_true rfl), (Nat.le_of_ble_eq_true rfl)⟩ rfl (Nat.le_of_ble_eq_true rfl) rfl (Nat.le_of_ble_eq_true rfl) (Nat.le_of_ble_eq_true rfl) ⟨_, _, rfl, Nat.le_of_ble_eq_true rfl, rfl⟩ ?_
              refine wp.mono H ?_
              rintro v w1 ⟨v12, rfl, rfl, H⟩
              show wp 7 72 (87, [some (vr 0), some (vi a1), some (vi a2)], [vi v12], (Wd S L F G h)) _
              exact wp.fin (v := some (vi v12)) (by decide) am_m72 rfl ⟨_, rfl, Or.inl rfl, rfl⟩ H
            · rw [if_neg c11] at H
              by_cases c13 : a2 = 4
              · rw [if_pos c13] at H
                refine pt72 (s' := (93, [some (vr 0), some (vi a1), some (vi a2)], [vi a1, vr 1], (Wd S L F G h))) (by decide) [5, 0, 1, 0] rfl ⟨⟨trivial, ⟨g4, (by omega : ¬ a2 < 0), (by omega : ¬ 4 < a2), c13⟩⟩, ⟨Nat.le_of_ble_eq_true rfl, rfl, hh _ _ _ rfl⟩⟩ ?_
                refine wp.cl am_m72 rfl am_m26 6 [vr 1, vi a1] [] rfl (Nat.le_of_ble_eq_true rfl) ⟨(Nat.le_of_ble_eq_true rfl), (Nat.le_of_ble_eq_true rfl)⟩ rfl (Nat.le_of_ble_eq_true rfl) rfl (Nat.le_of_ble_eq_true rfl) (Nat.le_of_ble_eq_true rfl) ⟨_, _, rfl, Nat.le_of_ble_eq_true rfl, rfl⟩ ?_
                obtain ⟨g14, H⟩ := H
                obtain ⟨g15, H⟩ := H
                obtain ⟨g16, H⟩ := H
                refine pt26 (s' := (11, [some (vr 1), some (vi a1)], [vi (F 2 (F 4 a1.toNat).toNat)], (Wd S L F G h))) (by decide) [0, 2, 0, 4, 0, 0, 0] rfl ⟨⟨⟨⟨trivial, ⟨Nat.le_of_ble_eq_true rfl, rfl, hh _ _ _ rfl⟩⟩, ⟨Nat.le_of_ble_eq_true rfl, rfl, hh _ _ _ rfl⟩⟩, (ix ⟨Nat.le_of_ble_eq_true rfl, rfl⟩ g14)⟩, (ix ⟨Nat.le_of_ble_eq_true rfl, rfl⟩ g15)⟩ ?_
                by_cases c17 : (F 2 (F 4 a1.toNat).toNat) = 0
                · rw [if_pos c17] at H
                  refine pt26 (s' := (19, [some (vr 1), some (vi a1)], [vi 1], (Wd S L F G h))) (by decide) [0, 0, 0] rfl ⟨trivial, ⟨g16, c17⟩⟩ ?_
                  refine wp.fin (v := some (vi 1)) (by decide) am_m26 rfl ⟨_, rfl, Or.inr ⟨rfl, Or.inr rfl⟩, rfl⟩ ?_
                  show wp 7 72 (96, [some (vr 0), some (vi a1), some (vi a2)], [vi 1], (Wd S L F G h)) _
                  refine pt72 (s' := (104, [some (vr 0), some (vi a1), some (vi a2)], [vi 1], (Wd S L F G h))) (by decide) [0, 0, 0] rfl ⟨trivial, ⟨(by decide : R32 1), (by decide : ¬ (1 : Int) = (0 : Int))⟩⟩ ?_
                  exact wp.fin (v := some (vi 1)) (by decide) am_m72 rfl ⟨_, rfl, Or.inl rfl, rfl⟩ H
                · rw [if_neg c17] at H
                  refine pt26 (s' := (19, [some (vr 1), some (vi a1)], [vi 0], (Wd S L F G h))) (by decide) [1, 0] rfl ⟨trivial, ⟨g16, c17⟩⟩ ?_
                  refine wp.fin (v := some (vi 0)) (by decide) am_m26 rfl ⟨_, rfl, Or.inr ⟨rfl, Or.inl rfl⟩, rfl⟩ ?_
                  show wp 7 72 (96, [some (vr 0), some (vi a1), some (vi a2)], [vi 0], (Wd S L F G h)) _
                  refine pt72 (s' := (104, [some (vr 0), some (vi a1), some (vi a2)], [vi 0], (Wd S L F G h))) (by decide) [1, 0] rfl ⟨trivial, ⟨(by decide : R32 0), (by decide : (0 : Int) = (0 : Int))⟩⟩ ?_
                  exact wp.fin (v := some (vi 0)) (by decide) am_m72 rfl ⟨_, rfl, Or.inl rfl, rfl⟩ H
              · rw [if_neg c13] at H
                refine pt72 (s' := (106, [some (vr 0), some (vi a1), some (vi a2)], [vi (-1)], (Wd S L F G h))) (by decide) [0, 0] rfl ⟨trivial, ⟨g4, (by omega : a2 < 0 ∨ 4 < a2)⟩⟩ ?_
                exact wp.fin (v := some (vi (-1))) (by decide) am_m72 rfl ⟨_, rfl, Or.inl rfl, rfl⟩ H
set_option maxRecDepth 100000 in
set_option maxHeartbeats 4000000 in
theorem T73_0 {S L : Nat} {F G : Nat → Nat → Int} {h : Nat → Nat → Option Nat} (hh : RfH h) {a1 : Int} {a2 : Int}  {Q : Option V2 → W2 → Prop}
    (H : (R32 a1 ∧
 (if a1 < 0 then
  Q (some (vi (-1))) (Wd S L F G h)
 else
  (R32 ((F 1 6) - 1) ∧
  (if ((F 1 6) - 1) < a1 then
   Q (some (vi (-1))) (Wd S L F G h)
  else
   C1_0  (Wd S L F G h) (fun v w1 => ∃ (F5 : Nat → Nat → Int), v = none ∧ w1 = (Wd S L F5 G h) ∧
    (R32 a2 ∧
    (if a2 = 0 then
     ((0 ≤ a1 ∧ a1 < 12) ∧
     Q (some (vi (F5 6 a1.toNat))) (Wd S L F5 G h))
    else
    (if a2 = 1 then
     ((0 ≤ a1 ∧ a1 < 12) ∧
     Q (some (vi (F5 7 a1.toNat))) (Wd S L F5 G h))
    else
    (if a2 = 2 then
     C27_0 a1 (Wd S L F5 G h) (fun v w1 => ∃ (v12 : Int), v = some (vi v12) ∧ w1 = (Wd S L F5 G h) ∧
      Q (some (vi v12)) (Wd S L F5 G h))
    else
    (if a2 = 3 then
     C7_0 a1 (Wd S L F5 G h) (fun v w1 => ∃ (v14 : Int), v = some (vi v14) ∧ w1 = (Wd S L F5 G h) ∧
      Q (some (vi v14)) (Wd S L F5 G h))
    else
    (if a2 = 4 then
     ((0 ≤ a1 ∧ a1 < 12) ∧
     Q (some (vi (F5 276 a1.toNat))) (Wd S L F5 G h))
    else
    (if a2 = 5 then
     ((0 ≤ a1 ∧ a1 < 12) ∧
     Q (some (vi (F5 277 a1.toNat))) (Wd S L F5 G h))
    else
    (if a2 = 6 then
     ((0 ≤ a1 ∧ a1 < 12) ∧
     Q (some (vi (F5 278 a1.toNat))) (Wd S L F5 G h))
    else
    Q (some (vi (-1))) (Wd S L F5 G h))))))))))))))) : C73_0 a1 a2 (Wd S L F G h) Q := by
  refine pt73 (s' := (11, [some (vr 0), some (vi a1), some (vi a2)], [vi ((F 1 6) - 1), vi 0, vi a1], (Wd S L F G h))) (by decide) [0, 0, 0, 1, 0, 0, 0] rfl ⟨⟨trivial, ⟨Nat.le_of_ble_eq_true rfl, rfl, hh _ _ _ rfl⟩⟩, ⟨Nat.le_of_ble_eq_true rfl, rfl⟩⟩ ?_
  refine wp.cl am_m73 rfl am_m101 6 [vi a1, vi 0, vi ((F 1 6) - 1)] [] rfl (Nat.le_of_ble_eq_true rfl) ⟨(Nat.le_of_ble_eq_true rfl), (Nat.le_of_ble_eq_true rfl)⟩ rfl (Nat.le_of_ble_eq_true rfl) rfl (Nat.le_of_ble_eq_true rfl) (Nat.le_of_ble_eq_true rfl) trivial ?_
  obtain ⟨g1, H⟩ := H
  refine pt101 (s' := (2, [some (vi a1), some (vi 0), some (vi ((F 1 6) - 1))], [vi 0, vi a1], (Wd S L F G h))) (by decide) [0, 0] rfl trivial ?_
  by_cases c2 : a1 < 0
  · rw [if_pos c2] at H
    refine pt101 (s' := (15, [some (vi a1), some (vi 0), some (vi ((F 1 6) - 1))], [vi 0], (Wd S L F G h))) (by decide) [1, 0] rfl ⟨trivial, ⟨⟨g1, (by decide : R32 0)⟩, c2⟩⟩ ?_
    refine wp.fin (v := some (vi 0)) (by decide) am_m101 rfl ⟨_, rfl, Or.inr ⟨rfl, Or.inl rfl⟩, rfl⟩ ?_
    show wp 11 73 (14, [some (vr 0), some (vi a1), some (vi a2)], [vi 0], (Wd S L F G h)) _
    refine pt73 (s' := (18, [some (vr 0), some (vi a1), some (vi a2)], [vi (-1)], (Wd S L F G h))) (by decide) [0, 0] rfl ⟨trivial, ⟨(by decide : R32 0), (by decide : (0 : Int) = (0 : Int))⟩⟩ ?_
    exact wp.fin (v := some (vi (-1))) (by decide) am_m73 rfl ⟨_, rfl, Or.inl rfl, rfl⟩ H
  · rw [if_neg c2] at H
    obtain ⟨g3, H⟩ := H
    refine pt101 (s' := (7, [some (vi a1), some (vi 0), some (vi ((F 1 6) - 1))], [vi ((F 1 6) - 1), vi a1], (Wd S L F G h))) (by decide) [0, 0, 0] rfl ⟨trivial, ⟨⟨g1, (by decide : R32 0)⟩, c2⟩⟩ ?_
    by_cases c4 : ((F 1 6) - 1) < a1
    · rw [if_pos c4] at H
      refine pt101 (s' := (15, [some (vi a1), some (vi 0), some (vi ((F 1 6) - 1))], [vi 0], (Wd S L F G h))) (by decide) [1, 0] rfl ⟨trivial, ⟨⟨g1, g3⟩, c4⟩⟩ ?_
      refine wp.fin (v := some (vi 0)) (by decide) am_m101 rfl ⟨_, rfl, Or.inr ⟨rfl, Or.inl rfl⟩, rfl⟩ ?_
      show wp 11 73 (14, [some (vr 0), some (vi a1), some (vi a2)], [vi 0], (Wd S L F G h)) _
      refine pt73 (s' := (18, [some (vr 0), some (vi a1), some (vi a2)], [vi (-1)], (Wd S L F G h))) (by decide) [0, 0] rfl ⟨trivial, ⟨(by decide : R32 0), (by decide : (0 : Int) = (0 : Int))⟩⟩ ?_
      exact wp.fin (v := some (vi (-1))) (by decide) am_m73 rfl ⟨_, rfl, Or.inl rfl, rfl⟩ H
    · rw [if_neg c4] at H
      refine pt101 (s' := (15, [some (vi a1), some (vi 0), some (vi ((F 1 6) - 1))], [vi 1], (Wd S L F G h))) (by decide) [0, 0, 0] rfl ⟨trivial, ⟨⟨g1, g3⟩, c4⟩⟩ ?_
      refine wp.fin (v := some (vi 1)) (by decide) am_m101 rfl ⟨_, rfl, Or.inr ⟨rfl, Or.inr rfl⟩, rfl⟩ ?_
      show wp 11 73 (14, [some (vr 0), some (vi a1), some (vi a2)], [vi 1], (Wd S L F G h)) _
      refine pt73 (s' := (27, [some (vr 0), some (vi a1), some (vi a2)], [vr 1, vr 275], (Wd S L F G h))) (by decide) [1, 0, 275, 0, 1] rfl ⟨⟨⟨trivial, ⟨(by decide : R32 1), (by decide : ¬ (1 : Int) = (0 : Int))⟩⟩, ⟨Nat.le_of_ble_eq_true rfl, rfl, hh _ _ _ rfl⟩⟩, ⟨Nat.le_of_ble_eq_true rfl, rfl, hh _ _ _ rfl⟩⟩ ?_
      refine wp.cl am_m73 rfl am_m1 10 [vr 275, vr 1] [] rfl (Nat.le_of_ble_eq_true rfl) ⟨(Nat.le_of_ble_eq_true rfl), (Nat.le_of_ble_eq_true rfl)⟩ rfl (Nat.le_of_ble_eq_true rfl) rfl (Nat.le_of_ble_eq_true rfl) (Nat.le_of_ble_eq_true rfl) ⟨_, _, rfl, Nat.le_of_ble_eq_true rfl, rfl⟩ ?_
      refine wp.mono H ?_
      rintro v w1 ⟨F5, rfl, rfl, H⟩
      show wp 11 73 (30, [some (vr 0), some (vi a1), some (vi a2)], [], (Wd S L F5 G h)) _
      obtain ⟨g6, H⟩ := H
      refine pt73 (s' := (31, [some (vr 0), some (vi a1), some (vi a2)], [vi a2], (Wd S L F5 G h))) (by decide) [0] rfl trivial ?_
      by_cases c7 : a2 = 0
      · rw [if_pos c7] at H
        obtain ⟨g8, H⟩ := H
        refine pt73 (s' := (81, [some (vr 0), some (vi a1), some (vi a2)], [vi (F5 6 a1.toNat)], (Wd S L F5 G h))) (by decide) [1, 0, 1, 6, 0, 0] rfl ⟨⟨⟨⟨trivial, ⟨g6, (by omega : ¬ a2 < 0), (by omega : ¬ 6 < a2), c7⟩⟩, ⟨Nat.le_of_ble_eq_true rfl, rfl, hh _ _ _ rfl⟩⟩, ⟨Nat.le_of_ble_eq_true rfl, rfl, hh _ _ _ rfl⟩⟩, (ix ⟨Nat.le_of_ble_eq_true rfl, rfl⟩ g8)⟩ ?_
        exact wp.fin (v := some (vi (F5 6 a1.toNat))) (by decide) am_m73 rfl ⟨_, rfl, Or.inl rfl, rfl⟩ H
      · rw [if_neg c7] at H
        by_cases c9 : a2 = 1
        · rw [if_pos c9] at H
          obtain ⟨g10, H⟩ := H
          refine pt73 (s' := (91, [some (vr 0), some (vi a1), some (vi a2)], [vi (F5 7 a1.toNat)], (Wd S L F5 G h))) (by decide) [2, 0, 1, 7, 0, 0] rfl ⟨⟨⟨⟨trivial, ⟨g6, (by omega : ¬ a2 < 0), (by omega : ¬ 6 < a2), c9⟩⟩, ⟨Nat.le_of_ble_eq_true rfl, rfl, hh _ _ _ rfl⟩⟩, ⟨Nat.le_of_ble_eq_true rfl, rfl, hh _ _ _ rfl⟩⟩, (ix ⟨Nat.le_of_ble_eq_true rfl, rfl⟩ g10)⟩ ?_
          exact wp.fin (v := some (vi (F5 7 a1.toNat))) (by decide) am_m73 rfl ⟨_, rfl, Or.inl rfl, rfl⟩ H
        · rw [if_neg c9] at H
          by_cases c11 : a2 = 2
          · rw [if_pos c11] at H
            refine pt73 (s' := (97, [some (vr 0), some (vi a1), some (vi a2)], [vi a1, vr 1], (Wd S L F5 G h))) (by decide) [3, 0, 1, 0] rfl ⟨⟨trivial, ⟨g6, (by omega : ¬ a2 < 0), (by omega : ¬ 6 < a2), c11⟩⟩, ⟨Nat.le_of_ble_eq_true rfl, rfl, hh _ _ _ rfl⟩⟩ ?_
            refine wp.cl am_m73 rfl am_m27 6 [vr 1, vi a1] [] rfl (Nat.le_of_ble_eq_true rfl) ⟨(Nat.le_of_ble_eq_true rfl), (Nat.le_of_ble_eq_true rfl)⟩ rfl (Nat.le_of_ble_eq_true rfl) rfl (Nat.le_of_ble_eq_true rfl) (Nat.le_of_ble_eq_true rfl) ⟨_, _, rfl, Nat.le_of_ble_eq_true rfl, rfl⟩ ?_
            refine wp.mono H ?_
            rintro v w1 ⟨v12, rfl, rfl, H⟩
            show wp 11 73 (100, [some (vr 0), some (vi a1), some (vi a2)], [vi v12], (Wd S L F5 G h)) _
            exact wp.fin (v := some (vi v12)) (by decide) am_m73 rfl ⟨_, rfl, Or.inl rfl, rfl⟩ H
          · rw [if_neg c11] at H
            by_cases c13 : a2 = 3
            · rw [if_pos c13] at H
              refine pt73 (s' := (106, [some (vr 0), some (vi a1), some (vi a2)], [vi a1, vr 275], (Wd S L F5 G h))) (by decide) [4, 0, 275, 0] rfl ⟨⟨trivial, ⟨g6, (by omega : ¬ a2 < 0), (by omega : ¬ 6 < a2), c13⟩⟩, ⟨Nat.le_of_ble_eq_true rfl, rfl, hh _ _ _ rfl⟩⟩ ?_
              refine wp.cl am_m73 rfl am_m7 6 [vr 275, vi a1] [] rfl (Nat.le_of_ble_eq_true rfl) ⟨(Nat.le_of_ble_eq_true rfl), (Nat.le_of_ble_eq_true rfl)⟩ rfl (Nat.le_of_ble_eq_true rfl) rfl (Nat.le_of_ble_eq_true rfl) (Nat.le_of_ble_eq_true rfl) ⟨_, _, rfl, Nat.le_of_ble_eq_true rfl, rfl⟩ ?_
              refine wp.mono H ?_
              rintro v w1 ⟨v14, rfl, rfl, H⟩
              show wp 11 73 (109, [some (vr 0), some (vi a1), some (vi a2)], [vi v14], (Wd S L F5 G h)) _
              exact wp.fin (v := some (vi v14)) (by decide) am_m73 rfl ⟨_, rfl, Or.inl rfl, rfl⟩ H
            · rw [if_neg c13] at H
              by_cases c15 : a2 = 4
              · rw [if_pos c15] at H
                obtain ⟨g16, H⟩ := H
                refine pt73 (s' := (119, [some (vr 0), some (vi a1), some (vi a2)], [vi (F5 276 a1.toNat)], (Wd S L F5 G h))) (by decide) [5, 0, 275, 276, 0, 0] rfl ⟨⟨⟨⟨trivial, ⟨g6, (by omega : ¬ a2 < 0), (by omega : ¬ 6 < a2), c15⟩⟩, ⟨Nat.le_of_ble_eq_true rfl, rfl, hh _ _ _ rfl⟩⟩, ⟨Nat.le_of_ble_eq_true rfl, rfl, hh _ _ _ rfl⟩⟩, (ix ⟨Nat.le_of_ble_eq_true rfl, rfl⟩ g16)⟩ ?_
                exact wp.fin (v := some (vi (F5 276 a1.toNat))) (by decide) am_m73 rfl ⟨_, rfl, Or.inl rfl, rfl⟩ H
              · rw [if_neg c15] at H
                by_cases c17 : a2 = 5
                · rw [if_pos c17] at H
                  obtain ⟨g18, H⟩ := H
                  refine pt73 (s' := (129, [some (vr 0), some (vi a1), some (vi a2)], [vi (F5 277 a1.toNat)], (Wd S L F5 G h))) (by decide) [6, 0, 275, 277, 0, 0] rfl ⟨⟨⟨⟨trivial, ⟨g6, (by omega : ¬ a2 < 0), (by omega : ¬ 6 < a2), c17⟩⟩, ⟨Nat.le_of_ble_eq_true rfl, rfl, hh _ _ _ rfl⟩⟩, ⟨Nat.le_of_ble_eq_true rfl, rfl, hh _ _ _ rfl⟩⟩, (ix ⟨Nat.le_of_ble_eq_true rfl, rfl⟩ g18)⟩ ?_
                  exact wp.fin (v := some (vi (F5 277 a1.toNat))) (by decide) am_m73 rfl ⟨_, rfl, Or.inl rfl, rfl⟩ H
                · rw [if_neg c17] at H
                  by_cases c19 : a2 = 6
                  · rw [if_pos c19] at H
                    obtain ⟨g20, H⟩ := H
                    refine pt73 (s' := (139, [some (vr 0), some (vi a1), some (vi a2)], [vi (F5 278 a1.toNat)], (Wd S L F5 G h))) (by decide) [7, 0, 275, 278, 0, 0] rfl ⟨⟨⟨⟨trivial, ⟨g6, (by omega : ¬ a2 < 0), (by omega : ¬ 6 < a2), c19⟩⟩, ⟨Nat.le_of_ble_eq_true rfl, rfl, hh _ _ _ rfl⟩⟩, ⟨Nat.le_of_ble_eq_true rfl, rfl, hh _ _ _ rfl⟩⟩, (ix ⟨Nat.le_of_ble_eq_true rfl, rfl⟩ g20)⟩ ?_
                    exact wp.fin (v := some (vi (F5 278 a1.toNat))) (by decide) am_m73 rfl ⟨_, rfl, Or.inl rfl, rfl⟩ H
                  · rw [if_neg c19] at H
                    refine pt73 (s' := (141, [some (vr 0), some (vi a1), some (vi a2)], [vi (-1)], (Wd S L F5 G h))) (by decide) [0, 0] rfl ⟨trivial, ⟨g6, (by omega : a2 < 0 ∨ 6 < a2)⟩⟩ ?_
                    exact wp.fin (v := some (vi (-1))) (by decide) am_m73 rfl ⟨_, rfl, Or.inl rfl, rfl⟩ H
set_option maxRecDepth 100000 in
set_option maxHeartbeats 4000000 in
theorem T74_0 {S L : Nat} {F G : Nat → Nat → Int} {h : Nat → Nat → Option Nat} (hh : RfH h) {a1 : Int} {a2 : Int}  {Q : Option V2 → W2 → Prop}
    (H : C1_0  (Wd S L F G h) (fun v w1 => ∃ (F1 : Nat → Nat → Int), v = none ∧ w1 = (Wd S L F1 G h) ∧
  (R32 a1 ∧
  (if a1 < 0 then
   Q (some (vi (-1))) (Wd S L F1 G h)
  else
   (R32 ((F1 275 7) - 1) ∧
   (if ((F1 275 7) - 1) < a1 then
    Q (some (vi (-1))) (Wd S L F1 G h)
   else
    (R32 a2 ∧
    (if a2 = 0 then
     ((0 ≤ a1 ∧ a1 < 100) ∧
     Q (some (vi (F1 279 a1.toNat))) (Wd S L F1 G h))
    else
    (if a2 = 1 then
     ((0 ≤ a1 ∧ a1 < 100) ∧
     Q (some (vi (F1 280 a1.toNat))) (Wd S L F1 G h))
    else
    Q (some (vi (-1))) (Wd S L F1 G h)))))))))) : C74_0 a1 a2 (Wd S L F G h) Q := by
  refine pt74 (s' := (8, [some (vr 0), some (vi a1), some (vi a2)], [vr 1, vr 275], (Wd S L F G h))) (by decide) [0, 275, 0, 1] rfl ⟨⟨trivial, ⟨Nat.le_of_ble_eq_true rfl, rfl, hh _ _ _ rfl⟩⟩, ⟨Nat.le_of_ble_eq_true rfl, rfl, hh _ _ _ rfl⟩⟩ ?_
  refine wp.cl am_m74 rfl am_m1 10 [vr 275, vr 1] [] rfl (Nat.le_of_ble_eq_true rfl) ⟨(Nat.le_of_ble_eq_true rfl), (Nat.le_of_ble_eq_true rfl)⟩ rfl (Nat.le_of_ble_eq_true rfl) rfl (Nat.le_of_ble_eq_true rfl) (Nat.le_of_ble_eq_true rfl) ⟨_, _, rfl, Nat.le_of_ble_eq_true rfl, rfl⟩ ?_
  refine wp.mono H ?_
  rintro v w1 ⟨F1, rfl, rfl, H⟩
  show wp 11 74 (11, [some (vr 0), some (vi a1), some (vi a2)], [], (Wd S L F1 G h)) _
  refine pt74 (s' := (22, [some (vr 0), some (vi a1), some (vi a2)], [vi ((F1 275 7) - 1), vi 0, vi a1], (Wd S L F1 G h))) (by decide) [0, 0, 0, 275, 0, 0, 0] rfl ⟨⟨trivial, ⟨Nat.le_of_ble_eq_true rfl, rfl, hh _ _ _ rfl⟩⟩, ⟨Nat.le_of_ble_eq_true rfl, rfl⟩⟩ ?_
  refine wp.cl am_m74 rfl am_m101 6 [vi a1, vi 0, vi ((F1 275 7) - 1)] [] rfl (Nat.le_of_ble_eq_true rfl) ⟨(Nat.le_of_ble_eq_true rfl), (Nat.le_of_ble_eq_true rfl)⟩ rfl (Nat.le_of_ble_eq_true rfl) rfl (Nat.le_of_ble_eq_true rfl) (Nat.le_of_ble_eq_true rfl) trivial ?_
  obtain ⟨g2, H⟩ := H
  refine pt101 (s' := (2, [some (vi a1), some (vi 0), some (vi ((F1 275 7) - 1))], [vi 0, vi a1], (Wd S L F1 G h))) (by decide) [0, 0] rfl trivial ?_
  by_cases c3 : a1 < 0
  · rw [if_pos c3] at H
    refine pt101 (s' := (15, [some (vi a1), some (vi 0), some (vi ((F1 275 7) - 1))], [vi 0], (Wd S L F1 G h))) (by decide) [1, 0] rfl ⟨trivial, ⟨⟨g2, (by decide : R32 0)⟩, c3⟩⟩ ?_
    refine wp.fin (v := some (vi 0)) (by decide) am_m101 rfl ⟨_, rfl, Or.inr ⟨rfl, Or.inl rfl⟩, rfl⟩ ?_
    show wp 11 74 (25, [some (vr 0), some (vi a1), some (vi a2)], [vi 0], (Wd S L F1 G h)) _
    refine pt74 (s' := (29, [some (vr 0), some (vi a1), some (vi a2)], [vi (-1)], (Wd S L F1 G h))) (by decide) [0, 0] rfl ⟨trivial, ⟨(by decide : R32 0), (by decide : (0 : Int) = (0 : Int))⟩⟩ ?_
    exact wp.fin (v := some (vi (-1))) (by decide) am_m74 rfl ⟨_, rfl, Or.inl rfl, rfl⟩ H
  · rw [if_neg c3] at H
    obtain ⟨g4, H⟩ := H
    refine pt101 (s' := (7, [some (vi a1), some (vi 0), some (vi ((F1 275 7) - 1))], [vi ((F1 275 7) - 1), vi a1], (Wd S L F1 G h))) (by decide) [0, 0, 0] rfl ⟨trivial, ⟨⟨g2, (by decide : R32 0)⟩, c3⟩⟩ ?_
    by_cases c5 : ((F1 275 7) - 1) < a1
    · rw [if_pos c5] at H
      refine pt101 (s' := (15, [some (vi a1), some (vi 0), some (vi ((F1 275 7) - 1))], [vi 0], (Wd S L F1 G h))) (by decide) [1, 0] rfl ⟨trivial, ⟨⟨g2, g4⟩, c5⟩⟩ ?_
      refine wp.fin (v := some (vi 0)) (by decide) am_m101 rfl ⟨_, rfl, Or.inr ⟨rfl, Or.inl rfl⟩, rfl⟩ ?_
      show wp 11 74 (25, [some (vr 0), some (vi a1), some (vi a2)], [vi 0], (Wd S L F1 G h)) _
      refine pt74 (s' := (29, [some (vr 0), some (vi a1), some (vi a2)], [vi (-1)], (Wd S L F1 G h))) (by decide) [0, 0] rfl ⟨trivial, ⟨(by decide : R32 0), (by decide : (0 : Int) = (0 : Int))⟩⟩ ?_
      exact wp.fin (v := some (vi (-1))) (by decide) am_m74 rfl ⟨_, rfl, Or.inl rfl, rfl⟩ H
    · rw [if_neg c5] at H
      refine pt101 (s' := (15, [some (vi a1), some (vi 0), some (vi ((F1 275 7) - 1))], [vi 1], (Wd S L F1 G h))) (by decide) [0, 0, 0] rfl ⟨trivial, ⟨⟨g2, g4⟩, c5⟩⟩ ?_
      refine wp.fin (v := some (vi 1)) (by decide) am_m101 rfl ⟨_, rfl, Or.inr ⟨rfl, Or.inr rfl⟩, rfl⟩ ?_
      show wp 11 74 (25, [some (vr 0), some (vi a1), some (vi a2)], [vi 1], (Wd S L F1 G h)) _
      obtain ⟨g6, H⟩ := H
      refine pt74 (s' := (31, [some (vr 0), some (vi a1), some (vi a2)], [vi a2], (Wd S L F1 G h))) (by decide) [1, 0] rfl ⟨trivial, ⟨(by decide : R32 1), (by decide : ¬ (1 : Int) = (0 : Int))⟩⟩ ?_
      by_cases c7 : a2 = 0
      · rw [if_pos c7] at H
        obtain ⟨g8, H⟩ := H
        refine pt74 (s' := (65, [some (vr 0), some (vi a1), some (vi a2)], [vi (F1 279 a1.toNat)], (Wd S L F1 G h))) (by decide) [1, 0, 275, 279, 0, 0] rfl ⟨⟨⟨⟨trivial, ⟨g6, by decide, by rw [c7]; decide⟩⟩, ⟨Nat.le_of_ble_eq_true rfl, rfl, hh _ _ _ rfl⟩⟩, ⟨Nat.le_of_ble_eq_true rfl, rfl, hh _ _ _ rfl⟩⟩, (ix ⟨Nat.le_of_ble_eq_true rfl, rfl⟩ g8)⟩ ?_
        exact wp.fin (v := some (vi (F1 279 a1.toNat))) (by decide) am_m74 rfl ⟨_, rfl, Or.inl rfl, rfl⟩ H
      · rw [if_neg c7] at H
        by_cases c9 : a2 = 1
        · rw [if_pos c9] at H
          obtain ⟨g10, H⟩ := H
          refine pt74 (s' := (75, [some (vr 0), some (vi a1), some (vi a2)], [vi (F1 280 a1.toNat)], (Wd S L F1 G h))) (by decide) [2, 0, 275, 280, 0, 0] rfl ⟨⟨⟨⟨trivial, ⟨g6, by decide, by rw [c9]; decide⟩⟩, ⟨Nat.le_of_ble_eq_true rfl, rfl, hh _ _ _ rfl⟩⟩, ⟨Nat.le_of_ble_eq_true rfl, rfl, hh _ _ _ rfl⟩⟩, (ix ⟨Nat.le_of_ble_eq_true rfl, rfl⟩ g10)⟩ ?_
          exact wp.fin (v := some (vi (F1 280 a1.toNat))) (by decide) am_m74 rfl ⟨_, rfl, Or.inl rfl, rfl⟩ H
        · rw [if_neg c9] at H
          refine pt74 (s' := (77, [some (vr 0), some (vi a1), some (vi a2)], [vi (-1)], (Wd S L F1 G h))) (by decide) [0, 0] rfl ⟨trivial, ⟨g6, by decide, lsw2 c7 c9⟩⟩ ?_
          exact wp.fin (v := some (vi (-1))) (by decide) am_m74 rfl ⟨_, rfl, Or.inl rfl, rfl⟩ H
set_option maxRecDepth 100000 in
set_option maxHeartbeats 4000000 in
theorem T75_0 {S L : Nat} {F G : Nat → Nat → Int} {h : Nat → Nat → Option Nat} (hh : RfH h) {a1 : Int}  {Q : Option V2 → W2 → Prop}
    (H : C1_0  (Wd S L F G h) (fun v w1 => ∃ (F1 : Nat → Nat → Int), v = none ∧ w1 = (Wd S L F1 G h) ∧
  (R32 a1 ∧
  (if a1 = 0 then
   Q (some (vi (F1 1 6))) (Wd S L F1 G h)
  else
  (if a1 = 1 then
   Q (some (vi (F1 275 7))) (Wd S L F1 G h)
  else
  (if a1 = 2 then
   C27_0 (F1 1 6) (Wd S L F1 G h) (fun v w1 => ∃ (v6 : Int), v = some (vi v6) ∧ w1 = (Wd S L F1 G h) ∧
    Q (some (vi v6)) (Wd S L F1 G h))
  else
  (if a1 = 3 then
   Q (some (vi (F1 275 3))) (Wd S L F1 G h)
  else
  (if a1 = 4 then
   Q (some (vi (F1 275 4))) (Wd S L F1 G h)
  else
  (if a1 = 5 then
   Q (some (vi (F1 275 8))) (Wd S L F1 G h)
  else
  (if a1 = 6 then
   Q (some (vi (F1 275 9))) (Wd S L F1 G h)
  else
  (if a1 = 7 then
   (R32 (F1 275 7) ∧
   (if (F1 275 7) = 0 then
    Q (some (vi (-4))) (Wd S L F1 G h)
   else
    Q (some (vi (F1 275 10))) (Wd S L F1 G h)))
  else
  (if a1 = 8 then
   Q (some (vi (F1 1 9))) (Wd S L F1 G h)
  else
  (if a1 = 9 then
   Q (some (vi (F1 1 13))) (Wd S L F1 G h)
  else
  (if a1 = 10 then
   Q (some (vi (F1 37 1))) (Wd S L F1 G h)
  else
  Q (some (vi (-1))) (Wd S L F1 G h))))))))))))))) : C75_0 a1 (Wd S L F G h) Q := by
  refine pt75 (s' := (8, [some (vr 0), some (vi a1)], [vr 1, vr 275], (Wd S L F G h))) (by decide) [0, 275, 0, 1] rfl ⟨⟨trivial, ⟨Nat.le_of_ble_eq_true rfl, rfl, hh _ _ _ rfl⟩⟩, ⟨Nat.le_of_ble_eq_true rfl, rfl, hh _ _ _ rfl⟩⟩ ?_
  refine wp.cl am_m75 rfl am_m1 10 [vr 275, vr 1] [] rfl (Nat.le_of_ble_eq_true rfl) ⟨(Nat.le_of_ble_eq_true rfl), (Nat.le_of_ble_eq_true rfl)⟩ rfl (Nat.le_of_ble_eq_true rfl) rfl (Nat.le_of_ble_eq_true rfl) (Nat.le_of_ble_eq_true rfl) ⟨_, _, rfl, Nat.le_of_ble_eq_true rfl, rfl⟩ ?_
  refine wp.mono H ?_
  rintro v w1 ⟨F1, rfl, rfl, H⟩
  show wp 11 75 (11, [some (vr 0), some (vi a1)], [], (Wd S L F1 G h)) _
  obtain ⟨g2, H⟩ := H
  refine pt75 (s' := (12, [some (vr 0), some (vi a1)], [vi a1], (Wd S L F1 G h))) (by decide) [0] rfl trivial ?_
  by_cases c3 : a1 = 0
  · rw [if_pos c3] at H
    refine pt75 (s' := (79, [some (vr 0), some (vi a1)], [vi (F1 1 6)], (Wd S L F1 G h))) (by decide) [1, 0, 1, 0] rfl ⟨⟨⟨trivial, ⟨g2, (by omega : ¬ a1 < 0), (by omega : ¬ 10 < a1), c3⟩⟩, ⟨Nat.le_of_ble_eq_true rfl, rfl, hh _ _ _ rfl⟩⟩, ⟨Nat.le_of_ble_eq_true rfl, rfl⟩⟩ ?_
    exact wp.fin (v := some (vi (F1 1 6))) (by decide) am_m75 rfl ⟨_, rfl, Or.inl rfl, rfl⟩ H
  · rw [if_neg c3] at H
    by_cases c4 : a1 = 1
    · rw [if_pos c4] at H
      refine pt75 (s' := (87, [some (vr 0), some (vi a1)], [vi (F1 275 7)], (Wd S L F1 G h))) (by decide) [2, 0, 275, 0] rfl ⟨⟨⟨trivial, ⟨g2, (by omega : ¬ a1 < 0), (by omega : ¬ 10 < a1), c4⟩⟩, ⟨Nat.le_of_ble_eq_true rfl, rfl, hh _ _ _ rfl⟩⟩, ⟨Nat.le_of_ble_eq_true rfl, rfl⟩⟩ ?_
      exact wp.fin (v := some (vi (F1 275 7))) (by decide) am_m75 rfl ⟨_, rfl, Or.inl rfl, rfl⟩ H
    · rw [if_neg c4] at H
      by_cases c5 : a1 = 2
      · rw [if_pos c5] at H
        refine pt75 (s' := (99, [some (vr 0), some (vi a1)], [vi (F1 1 6), vr 1], (Wd S L F1 G h))) (by decide) [3, 0, 1, 0, 1, 0] rfl ⟨⟨⟨⟨trivial, ⟨g2, (by omega : ¬ a1 < 0), (by omega : ¬ 10 < a1), c5⟩⟩, ⟨Nat.le_of_ble_eq_true rfl, rfl, hh _ _ _ rfl⟩⟩, ⟨Nat.le_of_ble_eq_true rfl, rfl, hh _ _ _ rfl⟩⟩, ⟨Nat.le_of_ble_eq_true rfl, rfl⟩⟩ ?_
        refine wp.cl am_m75 rfl am_m27 6 [vr 1, vi (F1 1 6)] [] rfl (Nat.le_of_ble_eq_true rfl) ⟨(Nat.le_of_ble_eq_true rfl), (Nat.le_of_ble_eq_true rfl)⟩ rfl (Nat.le_of_ble_eq_true rfl) rfl (Nat.le_of_ble_eq_true rfl) (Nat.le_of_ble_eq_true rfl) ⟨_, _, rfl, Nat.le_of_ble_eq_true rfl, rfl⟩ ?_
        refine wp.mono H ?_
        rintro v w1 ⟨v6, rfl, rfl, H⟩
        show wp 11 75 (102, [some (vr 0), some (vi a1)], [vi v6], (Wd S L F1 G h)) _
        exact wp.fin (v := some (vi v6)) (by decide) am_m75 rfl ⟨_, rfl, Or.inl rfl, rfl⟩ H
      · rw [if_neg c5] at H
        by_cases c7 : a1 = 3
        · rw [if_pos c7] at H
          refine pt75 (s' := (110, [some (vr 0), some (vi a1)], [vi (F1 275 3)], (Wd S L F1 G h))) (by decide) [4, 0, 275, 0] rfl ⟨⟨⟨trivial, ⟨g2, (by omega : ¬ a1 < 0), (by omega : ¬ 10 < a1), c7⟩⟩, ⟨Nat.le_of_ble_eq_true rfl, rfl, hh _ _ _ rfl⟩⟩, ⟨Nat.le_of_ble_eq_true rfl, rfl⟩⟩ ?_
          exact wp.fin (v := some (vi (F1 275 3))) (by decide) am_m75 rfl ⟨_, rfl, Or.inl rfl, rfl⟩ H
        · rw [if_neg c7] at H
          by_cases c8 : a1 = 4
          · rw [if_pos c8] at H
            refine pt75 (s' := (118, [some (vr 0), some (vi a1)], [vi (F1 275 4)], (Wd S L F1 G h))) (by decide) [5, 0, 275, 0] rfl ⟨⟨⟨trivial, ⟨g2, (by omega : ¬ a1 < 0), (by omega : ¬ 10 < a1), c8⟩⟩, ⟨Nat.le_of_ble_eq_true rfl, rfl, hh _ _ _ rfl⟩⟩, ⟨Nat.le_of_ble_eq_true rfl, rfl⟩⟩ ?_
            exact wp.fin (v := some (vi (F1 275 4))) (by decide) am_m75 rfl ⟨_, rfl, Or.inl rfl, rfl⟩ H
          · rw [if_neg c8] at H
            by_cases c9 : a1 = 5
            · rw [if_pos c9] at H
              refine pt75 (s' := (126, [some (vr 0), some (vi a1)], [vi (F1 275 8)], (Wd S L F1 G h))) (by decide) [6, 0, 275, 0] rfl ⟨⟨⟨trivial, ⟨g2, (by omega : ¬ a1 < 0), (by omega : ¬ 10 < a1), c9⟩⟩, ⟨Nat.le_of_ble_eq_true rfl, rfl, hh _ _ _ rfl⟩⟩, ⟨Nat.le_of_ble_eq_true rfl, rfl⟩⟩ ?_
              exact wp.fin (v := some (vi (F1 275 8))) (by decide) am_m75 rfl ⟨_, rfl, Or.inl rfl, rfl⟩ H
            · rw [if_neg c9] at H
              by_cases c10 : a1 = 6
              · rw [if_pos c10] at H
                refine pt75 (s' := (134, [some (vr 0), some (vi a1)], [vi (F1 275 9)], (Wd S L F1 G h))) (by decide) [7, 0, 275, 0] rfl ⟨⟨⟨trivial, ⟨g2, (by omega : ¬ a1 < 0), (by omega : ¬ 10 < a1), c10⟩⟩, ⟨Nat.le_of_ble_eq_true rfl, rfl, hh _ _ _ rfl⟩⟩, ⟨Nat.le_of_ble_eq_true rfl, rfl⟩⟩ ?_
                exact wp.fin (v := some (vi (F1 275 9))) (by decide) am_m75 rfl ⟨_, rfl, Or.inl rfl, rfl⟩ H
              · rw [if_neg c10] at H
                by_cases c11 : a1 = 7
                · rw [if_pos c11] at H
                  obtain ⟨g12, H⟩ := H
                  refine pt75 (s' := (142, [some (vr 0), some (vi a1)], [vi (F1 275 7)], (Wd S L F1 G h))) (by decide) [8, 0, 275, 0] rfl ⟨⟨⟨trivial, ⟨g2, (by omega : ¬ a1 < 0), (by omega : ¬ 10 < a1), c11⟩⟩, ⟨Nat.le_of_ble_eq_true rfl, rfl, hh _ _ _ rfl⟩⟩, ⟨Nat.le_of_ble_eq_true rfl, rfl⟩⟩ ?_
                  by_cases c13 : (F1 275 7) = 0
                  · rw [if_pos c13] at H
                    refine pt75 (s' := (157, [some (vr 0), some (vi a1)], [vi (-4)], (Wd S L F1 G h))) (by decide) [0, 0, 0] rfl ⟨trivial, ⟨g12, c13⟩⟩ ?_
                    exact wp.fin (v := some (vi (-4))) (by decide) am_m75 rfl ⟨_, rfl, Or.inl rfl, rfl⟩ H
                  · rw [if_neg c13] at H
                    refine pt75 (s' := (157, [some (vr 0), some (vi a1)], [vi (F1 275 10)], (Wd S L F1 G h))) (by decide) [1, 0, 275, 0] rfl ⟨⟨⟨trivial, ⟨g12, c13⟩⟩, ⟨Nat.le_of_ble_eq_true rfl, rfl, hh _ _ _ rfl⟩⟩, ⟨Nat.le_of_ble_eq_true rfl, rfl⟩⟩ ?_
                    exact wp.fin (v := some (vi (F1 275 10))) (by decide) am_m75 rfl ⟨_, rfl, Or.inl rfl, rfl⟩ H
                · rw [if_neg c11] at H
                  by_cases c14 : a1 = 8
                  · rw [if_pos c14] at H
                    refine pt75 (s' := (165, [some (vr 0), some (vi a1)], [vi (F1 1 9)], (Wd S L F1 G h))) (by decide) [9, 0, 1, 0] rfl ⟨⟨⟨trivial, ⟨g2, (by omega : ¬ a1 < 0), (by omega : ¬ 10 < a1), c14⟩⟩, ⟨Nat.le_of_ble_eq_true rfl, rfl, hh _ _ _ rfl⟩⟩, ⟨Nat.le_of_ble_eq_true rfl, rfl⟩⟩ ?_
                    exact wp.fin (v := some (vi (F1 1 9))) (by decide) am_m75 rfl ⟨_, rfl, Or.inl rfl, rfl⟩ H
                  · rw [if_neg c14] at H
                    by_cases c15 : a1 = 9
                    · rw [if_pos c15] at H
                      refine pt75 (s' := (173, [some (vr 0), some (vi a1)], [vi (F1 1 13)], (Wd S L F1 G h))) (by decide) [10, 0, 1, 0] rfl ⟨⟨⟨trivial, ⟨g2, (by omega : ¬ a1 < 0), (by omega : ¬ 10 < a1), c15⟩⟩, ⟨Nat.le_of_ble_eq_true rfl, rfl, hh _ _ _ rfl⟩⟩, ⟨Nat.le_of_ble_eq_true rfl, rfl⟩⟩ ?_
                      exact wp.fin (v := some (vi (F1 1 13))) (by decide) am_m75 rfl ⟨_, rfl, Or.inl rfl, rfl⟩ H
                    · rw [if_neg c15] at H
                      by_cases c16 : a1 = 10
                      · rw [if_pos c16] at H
                        refine pt75 (s' := (181, [some (vr 0), some (vi a1)], [vi (F1 37 1)], (Wd S L F1 G h))) (by decide) [11, 0, 37, 0] rfl ⟨⟨⟨trivial, ⟨g2, (by omega : ¬ a1 < 0), (by omega : ¬ 10 < a1), c16⟩⟩, ⟨Nat.le_of_ble_eq_true rfl, rfl, hh _ _ _ rfl⟩⟩, ⟨Nat.le_of_ble_eq_true rfl, rfl⟩⟩ ?_
                        exact wp.fin (v := some (vi (F1 37 1))) (by decide) am_m75 rfl ⟨_, rfl, Or.inl rfl, rfl⟩ H
                      · rw [if_neg c16] at H
                        refine pt75 (s' := (183, [some (vr 0), some (vi a1)], [vi (-1)], (Wd S L F1 G h))) (by decide) [0, 0] rfl ⟨trivial, ⟨g2, (by omega : a1 < 0 ∨ 10 < a1)⟩⟩ ?_
                        exact wp.fin (v := some (vi (-1))) (by decide) am_m75 rfl ⟨_, rfl, Or.inl rfl, rfl⟩ H
set_option maxRecDepth 100000 in
set_option maxHeartbeats 4000000 in
theorem T76_0 {S L : Nat} {F G : Nat → Nat → Int} {h : Nat → Nat → Option Nat} (hh : RfH h) {a1 : Int} {a2 : Int} {a3 : Int}  {Q : Option V2 → W2 → Prop}
    (H : (R32 a1 ∧
 (if a1 < 0 then
  Q (some (vi (-1))) (Wd S L F G h)
 else
  (R32 ((F 1 6) - 1) ∧
  (if ((F 1 6) - 1) < a1 then
   Q (some (vi (-1))) (Wd S L F G h)
  else
   (R32 a2 ∧
   (if a2 = 0 then
    (R32 a3 ∧
    (if a3 = 0 then
     C10_0 a1 a2 (Wd S L F G h) (fun v w1 => ∃ (v9 : Int), v = some (vj v9) ∧ w1 = (Wd S L F G h) ∧
      C105_0 v9 360360 a3 (Wd S L F G h) (fun v w1 => ∃ (v10 : Int), v = some (vj v10) ∧ w1 = (Wd S L F G h) ∧
       Q (some (vi v10)) (Wd S L F G h)))
    else
     (if a3 = 1 then
      C10_0 a1 a2 (Wd S L F G h) (fun v w1 => ∃ (v12 : Int), v = some (vj v12) ∧ w1 = (Wd S L F G h) ∧
       C105_0 v12 360360 a3 (Wd S L F G h) (fun v w1 => ∃ (v13 : Int), v = some (vj v13) ∧ w1 = (Wd S L F G h) ∧
        Q (some (vi v13)) (Wd S L F G h)))
     else
      Q (some (vi (-1))) (Wd S L F G h))))
   else
    (if a2 = 1 then
     (R32 a3 ∧
     (if a3 = 0 then
      C10_0 a1 a2 (Wd S L F G h) (fun v w1 => ∃ (v17 : Int), v = some (vj v17) ∧ w1 = (Wd S L F G h) ∧
       C105_0 v17 360360 a3 (Wd S L F G h) (fun v w1 => ∃ (v18 : Int), v = some (vj v18) ∧ w1 = (Wd S L F G h) ∧
        Q (some (vi v18)) (Wd S L F G h)))
     else
      (if a3 = 1 then
       C10_0 a1 a2 (Wd S L F G h) (fun v w1 => ∃ (v20 : Int), v = some (vj v20) ∧ w1 = (Wd S L F G h) ∧
        C105_0 v20 360360 a3 (Wd S L F G h) (fun v w1 => ∃ (v21 : Int), v = some (vj v21) ∧ w1 = (Wd S L F G h) ∧
         Q (some (vi v21)) (Wd S L F G h)))
      else
       Q (some (vi (-1))) (Wd S L F G h))))
    else
     Q (some (vi (-1))) (Wd S L F G h))))))))) : C76_0 a1 a2 a3 (Wd S L F G h) Q := by
  refine pt76 (s' := (11, [some (vr 0), some (vi a1), some (vi a2), some (vi a3)], [vi ((F 1 6) - 1), vi 0, vi a1], (Wd S L F G h))) (by decide) [0, 0, 0, 1, 0, 0, 0] rfl ⟨⟨trivial, ⟨Nat.le_of_ble_eq_true rfl, rfl, hh _ _ _ rfl⟩⟩, ⟨Nat.le_of_ble_eq_true rfl, rfl⟩⟩ ?_
  refine wp.cl am_m76 rfl am_m101 6 [vi a1, vi 0, vi ((F 1 6) - 1)] [] rfl (Nat.le_of_ble_eq_true rfl) ⟨(Nat.le_of_ble_eq_true rfl), (Nat.le_of_ble_eq_true rfl)⟩ rfl (Nat.le_of_ble_eq_true rfl) rfl (Nat.le_of_ble_eq_true rfl) (Nat.le_of_ble_eq_true rfl) trivial ?_
  obtain ⟨g1, H⟩ := H
  refine pt101 (s' := (2, [some (vi a1), some (vi 0), some (vi ((F 1 6) - 1))], [vi 0, vi a1], (Wd S L F G h))) (by decide) [0, 0] rfl trivial ?_
  by_cases c2 : a1 < 0
  · rw [if_pos c2] at H
    refine pt101 (s' := (15, [some (vi a1), some (vi 0), some (vi ((F 1 6) - 1))], [vi 0], (Wd S L F G h))) (by decide) [1, 0] rfl ⟨trivial, ⟨⟨g1, (by decide : R32 0)⟩, c2⟩⟩ ?_
    refine wp.fin (v := some (vi 0)) (by decide) am_m101 rfl ⟨_, rfl, Or.inr ⟨rfl, Or.inl rfl⟩, rfl⟩ ?_
    show wp 8 76 (14, [some (vr 0), some (vi a1), some (vi a2), some (vi a3)], [vi 0], (Wd S L F G h)) _
    refine pt76 (s' := (32, [some (vr 0), some (vi a1), some (vi a2), some (vi a3)], [vi (-1)], (Wd S L F G h))) (by decide) [1, 0] rfl ⟨trivial, ⟨(by decide : R32 0), (by decide : (0 : Int) = (0 : Int))⟩⟩ ?_
    exact wp.fin (v := some (vi (-1))) (by decide) am_m76 rfl ⟨_, rfl, Or.inl rfl, rfl⟩ H
  · rw [if_neg c2] at H
    obtain ⟨g3, H⟩ := H
    refine pt101 (s' := (7, [some (vi a1), some (vi 0), some (vi ((F 1 6) - 1))], [vi ((F 1 6) - 1), vi a1], (Wd S L F G h))) (by decide) [0, 0, 0] rfl ⟨trivial, ⟨⟨g1, (by decide : R32 0)⟩, c2⟩⟩ ?_
    by_cases c4 : ((F 1 6) - 1) < a1
    · rw [if_pos c4] at H
      refine pt101 (s' := (15, [some (vi a1), some (vi 0), some (vi ((F 1 6) - 1))], [vi 0], (Wd S L F G h))) (by decide) [1, 0] rfl ⟨trivial, ⟨⟨g1, g3⟩, c4⟩⟩ ?_
      refine wp.fin (v := some (vi 0)) (by decide) am_m101 rfl ⟨_, rfl, Or.inr ⟨rfl, Or.inl rfl⟩, rfl⟩ ?_
      show wp 8 76 (14, [some (vr 0), some (vi a1), some (vi a2), some (vi a3)], [vi 0], (Wd S L F G h)) _
      refine pt76 (s' := (32, [some (vr 0), some (vi a1), some (vi a2), some (vi a3)], [vi (-1)], (Wd S L F G h))) (by decide) [1, 0] rfl ⟨trivial, ⟨(by decide : R32 0), (by decide : (0 : Int) = (0 : Int))⟩⟩ ?_
      exact wp.fin (v := some (vi (-1))) (by decide) am_m76 rfl ⟨_, rfl, Or.inl rfl, rfl⟩ H
    · rw [if_neg c4] at H
      refine pt101 (s' := (15, [some (vi a1), some (vi 0), some (vi ((F 1 6) - 1))], [vi 1], (Wd S L F G h))) (by decide) [0, 0, 0] rfl ⟨trivial, ⟨⟨g1, g3⟩, c4⟩⟩ ?_
      refine wp.fin (v := some (vi 1)) (by decide) am_m101 rfl ⟨_, rfl, Or.inr ⟨rfl, Or.inr rfl⟩, rfl⟩ ?_
      show wp 8 76 (14, [some (vr 0), some (vi a1), some (vi a2), some (vi a3)], [vi 1], (Wd S L F G h)) _
      refine pt76 (s' := (18, [some (vr 0), some (vi a1), some (vi a2), some (vi a3)], [vi a2], (Wd S L F G h))) (by decide) [0, 0] rfl ⟨trivial, ⟨(by decide : R32 1), (by decide : ¬ (1 : Int) = (0 : Int))⟩⟩ ?_
      refine wp.cl am_m76 rfl am_m102 6 [vi a2] [] rfl (Nat.le_of_ble_eq_true rfl) ⟨(Nat.le_of_ble_eq_true rfl), (Nat.le_of_ble_eq_true rfl)⟩ rfl (Nat.le_of_ble_eq_true rfl) rfl (Nat.le_of_ble_eq_true rfl) (Nat.le_of_ble_eq_true rfl) trivial ?_
      obtain ⟨g5, H⟩ := H
      refine pt102 (s' := (1, [some (vi a2)], [vi a2], (Wd S L F G h))) (by decide) [0] rfl trivial ?_
      by_cases c6 : a2 = 0
      · rw [if_pos c6] at H
        refine pt102 (s' := (14, [some (vi a2)], [vi 1], (Wd S L F G h))) (by decide) [1, 0, 0] rfl ⟨trivial, ⟨g5, c6⟩⟩ ?_
        refine wp.fin (v := some (vi 1)) (by decide) am_m102 rfl ⟨_, rfl, Or.inr ⟨rfl, Or.inr rfl⟩, rfl⟩ ?_
        show wp 8 76 (21, [some (vr 0), some (vi a1), some (vi a2), some (vi a3)], [vi 1], (Wd S L F G h)) _
        refine pt76 (s' := (25, [some (vr 0), some (vi a1), some (vi a2), some (vi a3)], [vi a3], (Wd S L F G h))) (by decide) [0, 0] rfl ⟨trivial, ⟨(by decide : R32 1), (by decide : ¬ (1 : Int) = (0 : Int))⟩⟩ ?_
        refine wp.cl am_m76 rfl am_m103 6 [vi a3] [] rfl (Nat.le_of_ble_eq_true rfl) ⟨(Nat.le_of_ble_eq_true rfl), (Nat.le_of_ble_eq_true rfl)⟩ rfl (Nat.le_of_ble_eq_true rfl) rfl (Nat.le_of_ble_eq_true rfl) (Nat.le_of_ble_eq_true rfl) trivial ?_
        obtain ⟨g7, H⟩ := H
        refine pt103 (s' := (1, [some (vi a3)], [vi a3], (Wd S L F G h))) (by decide) [0] rfl trivial ?_
        by_cases c8 : a3 = 0
        · rw [if_pos c8] at H
          refine pt103 (s' := (14, [some (vi a3)], [vi 1], (Wd S L F G h))) (by decide) [1, 0, 0] rfl ⟨trivial, ⟨g7, c8⟩⟩ ?_
          refine wp.fin (v := some (vi 1)) (by decide) am_m103 rfl ⟨_, rfl, Or.inr ⟨rfl, Or.inr rfl⟩, rfl⟩ ?_
          show wp 8 76 (28, [some (vr 0), some (vi a1), some (vi a2), some (vi a3)], [vi 1], (Wd S L F G h)) _
          refine pt76 (s' := (39, [some (vr 0), some (vi a1), some (vi a2), some (vi a3)], [vi a2, vi a1, vr 1], (Wd S L F G h))) (by decide) [1, 0, 1, 0, 0] rfl ⟨⟨trivial, ⟨(by decide : R32 1), (by decide : ¬ (1 : Int) = (0 : Int))⟩⟩, ⟨Nat.le_of_ble_eq_true rfl, rfl, hh _ _ _ rfl⟩⟩ ?_
          refine wp.cl am_m76 rfl am_m10 7 [vr 1, vi a1, vi a2] [] rfl (Nat.le_of_ble_eq_true rfl) ⟨(Nat.le_of_ble_eq_true rfl), (Nat.le_of_ble_eq_true rfl)⟩ rfl (Nat.le_of_ble_eq_true rfl) rfl (Nat.le_of_ble_eq_true rfl) (Nat.le_of_ble_eq_true rfl) trivial ?_
          refine wp.mono H ?_
          rintro v w1 ⟨v9, rfl, rfl, H⟩
          show wp 8 76 (42, [some (vr 0), some (vi a1), some (vi a2), some (vi a3)], [vj v9], (Wd S L F G h)) _
          refine pt76 (s' := (46, [some (vr 0), some (vi a1), some (vi a2), some (vi a3)], [vi a3, vj 360360, vj v9], (Wd S L F G h))) (by decide) [0, 0] rfl trivial ?_
          refine wp.cl am_m76 rfl am_m105 7 [vj v9, vj 360360, vi a3] [] rfl (Nat.le_of_ble_eq_true rfl) ⟨(Nat.le_of_ble_eq_true rfl), (Nat.le_of_ble_eq_true rfl)⟩ rfl (Nat.le_of_ble_eq_true rfl) rfl (Nat.le_of_ble_eq_true rfl) (Nat.le_of_ble_eq_true rfl) trivial ?_
          refine wp.mono H ?_
          rintro v w1 ⟨v10, rfl, rfl, H⟩
          show wp 8 76 (49, [some (vr 0), some (vi a1), some (vi a2), some (vi a3)], [vj v10], (Wd S L F G h)) _
          refine pt76 (s' := (50, [some (vr 0), some (vi a1), some (vi a2), some (vi a3)], [vi v10], (Wd S L F G h))) (by decide) [0] rfl trivial ?_
          exact wp.fin (v := some (vi v10)) (by decide) am_m76 rfl ⟨_, rfl, Or.inl rfl, rfl⟩ H
        · rw [if_neg c8] at H
          refine pt103 (s' := (6, [some (vi a3)], [vi 1, vi a3], (Wd S L F G h))) (by decide) [0, 0, 0] rfl ⟨trivial, ⟨g7, c8⟩⟩ ?_
          by_cases c11 : a3 = 1
          · rw [if_pos c11] at H
            refine pt103 (s' := (14, [some (vi a3)], [vi 1], (Wd S L F G h))) (by decide) [0, 0, 0] rfl ⟨trivial, ⟨⟨g7, (by decide : R32 1)⟩, c11⟩⟩ ?_
            refine wp.fin (v := some (vi 1)) (by decide) am_m103 rfl ⟨_, rfl, Or.inr ⟨rfl, Or.inr rfl⟩, rfl⟩ ?_
            show wp 8 76 (28, [some (vr 0), some (vi a1), some (vi a2), some (vi a3)], [vi 1], (Wd S L F G h)) _
            refine pt76 (s' := (39, [some (vr 0), some (vi a1), some (vi a2), some (vi a3)], [vi a2, vi a1, vr 1], (Wd S L F G h))) (by decide) [1, 0, 1, 0, 0] rfl ⟨⟨trivial, ⟨(by decide : R32 1), (by decide : ¬ (1 : Int) = (0 : Int))⟩⟩, ⟨Nat.le_of_ble_eq_true rfl, rfl, hh _ _ _ rfl⟩⟩ ?_
            refine wp.cl am_m76 rfl am_m10 7 [vr 1, vi a1, vi a2] [] rfl (Nat.le_of_ble_eq_true rfl) ⟨(Nat.le_of_ble_eq_true rfl), (Nat.le_of_ble_eq_true rfl)⟩ rfl (Nat.le_of_ble_eq_true rfl) rfl (Nat.le_of_ble_eq_true rfl) (Nat.le_of_ble_eq_true rfl) trivial ?_
            refine wp.mono H ?_
            rintro v w1 ⟨v12, rfl, rfl, H⟩
            show wp 8 76 (42, [some (vr 0), some (vi a1), some (vi a2), some (vi a3)], [vj v12], (Wd S L F G h)) _
            refine pt76 (s' := (46, [some (vr 0), some (vi a1), some (vi a2), some (vi a3)], [vi a3, vj 360360, vj v12], (Wd S L F G h))) (by decide) [0, 0] rfl trivial ?_
            refine wp.cl am_m76 rfl am_m105 7 [vj v12, vj 360360, vi a3] [] rfl (Nat.le_of_ble_eq_true rfl) ⟨(Nat.le_of_ble_eq_true rfl), (Nat.le_of_ble_eq_true rfl)⟩ rfl (Nat.le_of_ble_eq_true rfl) rfl (Nat.le_of_ble_eq_true rfl) (Nat.le_of_ble_eq_true rfl) trivial ?_
            refine wp.mono H ?_
            rintro v w1 ⟨v13, rfl, rfl, H⟩
            show wp 8 76 (49, [some (vr 0), some (vi a1), some (vi a2), some (vi a3)], [vj v13], (Wd S L F G h)) _
            refine pt76 (s' := (50, [some (vr 0), some (vi a1), some (vi a2), some (vi a3)], [vi v13], (Wd S L F G h))) (by decide) [0] rfl trivial ?_
            exact wp.fin (v := some (vi v13)) (by decide) am_m76 rfl ⟨_, rfl, Or.inl rfl, rfl⟩ H
          · rw [if_neg c11] at H
            refine pt103 (s' := (14, [some (vi a3)], [vi 0], (Wd S L F G h))) (by decide) [1, 0] rfl ⟨trivial, ⟨⟨g7, (by decide : R32 1)⟩, c11⟩⟩ ?_
            refine wp.fin (v := some (vi 0)) (by decide) am_m103 rfl ⟨_, rfl, Or.inr ⟨rfl, Or.inl rfl⟩, rfl⟩ ?_
            show wp 8 76 (28, [some (vr 0), some (vi a1), some (vi a2), some (vi a3)], [vi 0], (Wd S L F G h)) _
            refine pt76 (s' := (32, [some (vr 0), some (vi a1), some (vi a2), some (vi a3)], [vi (-1)], (Wd S L F G h))) (by decide) [0, 0] rfl ⟨trivial, ⟨(by decide : R32 0), (by decide : (0 : Int) = (0 : Int))⟩⟩ ?_
            exact wp.fin (v := some (vi (-1))) (by decide) am_m76 rfl ⟨_, rfl, Or.inl rfl, rfl⟩ H
      · rw [if_neg c6] at H
        refine pt102 (s' := (6, [some (vi a2)], [vi 1, vi a2], (Wd S L F G h))) (by decide) [0, 0, 0] rfl ⟨trivial, ⟨g5, c6⟩⟩ ?_
        by_cases c14 : a2 = 1
        · rw [if_pos c14] at H
          refine pt102 (s' := (14, [some (vi a2)], [vi 1], (Wd S L F G h))) (by decide) [0, 0, 0] rfl ⟨trivial, ⟨⟨g5, (by decide : R32 1)⟩, c14⟩⟩ ?_
          refine wp.fin (v := some (vi 1)) (by decide) am_m102 rfl ⟨_, rfl, Or.inr ⟨rfl, Or.inr rfl⟩, rfl⟩ ?_
          show wp 8 76 (21, [some (vr 0), some (vi a1), some (vi a2), some (vi a3)], [vi 1], (Wd S L F G h)) _
          refine pt76 (s' := (25, [some (vr 0), some (vi a1), some (vi a2), some (vi a3)], [vi a3], (Wd S L F G h))) (by decide) [0, 0] rfl ⟨trivial, ⟨(by decide : R32 1), (by decide : ¬ (1 : Int) = (0 : Int))⟩⟩ ?_
          refine wp.cl am_m76 rfl am_m103 6 [vi a3] [] rfl (Nat.le_of_ble_eq_true rfl) ⟨(Nat.le_of_ble_eq_true rfl), (Nat.le_of_ble_eq_true rfl)⟩ rfl (Nat.le_of_ble_eq_true rfl) rfl (Nat.le_of_ble_eq_true rfl) (Nat.le_of_ble_eq_true rfl) trivial ?_
          obtain ⟨g15, H⟩ := H
          refine pt103 (s' := (1, [some (vi a3)], [vi a3], (Wd S L F G h))) (by decide) [0] rfl trivial ?_
          by_cases c16 : a3 = 0
          · rw [if_pos c16] at H
            refine pt103 (s' := (14, [some (vi a3)], [vi 1], (Wd S L F G h))) (by decide) [1, 0, 0] rfl ⟨trivial, ⟨g15, c16⟩⟩ ?_
            refine wp.fin (v := some (vi 1)) (by decide) am_m103 rfl ⟨_, rfl, Or.inr ⟨rfl, Or.inr rfl⟩, rfl⟩ ?_
            show wp 8 76 (28, [some (vr 0), some (vi a1), some (vi a2), some (vi a3)], [vi 1], (Wd S L F G h)) _
            refine pt76 (s' := (39, [some (vr 0), some (vi a1), some (vi a2), some (vi a3)], [vi a2, vi a1, vr 1], (Wd S L F G h))) (by decide) [1, 0, 1, 0, 0] rfl ⟨⟨trivial, ⟨(by decide : R32 1), (by decide : ¬ (1 : Int) = (0 : Int))⟩⟩, ⟨Nat.le_of_ble_eq_true rfl, rfl, hh _ _ _ rfl⟩⟩ ?_
            refine wp.cl am_m76 rfl am_m10 7 [vr 1, vi a1, vi a2] [] rfl (Nat.le_of_ble_eq_true rfl) ⟨(Nat.le_of_ble_eq_true rfl), (Nat.le_of_ble_eq_true rfl)⟩ rfl (Nat.le_of_ble_eq_true rfl) rfl (Nat.le_of_ble_eq_true rfl) (Nat.le_of_ble_eq_true rfl) trivial ?_
            refine wp.mono H ?_
            rintro v w1 ⟨v17, rfl, rfl, H⟩
            show wp 8 76 (42, [some (vr 0), some (vi a1), some (vi a2), some (vi a3)], [vj v17], (Wd S L F G h)) _
            refine pt76 (s' := (46, [some (vr 0), some (vi a1), some (vi a2), some (vi a3)], [vi a3, vj 360360, vj v17], (Wd S L F G h))) (by decide) [0, 0] rfl trivial ?_
            refine wp.cl am_m76 rfl am_m105 7 [vj v17, vj 360360, vi a3] [] rfl (Nat.le_of_ble_eq_true rfl) ⟨(Nat.le_of_ble_eq_true rfl), (Nat.le_of_ble_eq_true rfl)⟩ rfl (Nat.le_of_ble_eq_true rfl) rfl (Nat.le_of_ble_eq_true rfl) (Nat.le_of_ble_eq_true rfl) trivial ?_
            refine wp.mono H ?_
            rintro v w1 ⟨v18, rfl, rfl, H⟩
            show wp 8 76 (49, [some (vr 0), some (vi a1), some (vi a2), some (vi a3)], [vj v18], (Wd S L F G h)) _
            refine pt76 (s' := (50, [some (vr 0), some (vi a1), some (vi a2), some (vi a3)], [vi v18], (Wd S L F G h))) (by decide) [0] rfl trivial ?_
            exact wp.fin (v := some (vi v18)) (by decide) am_m76 rfl ⟨_, rfl, Or.inl rfl, rfl⟩ H
          · rw [if_neg c16] at H
            refine pt103 (s' := (6, [some (vi a3)], [vi 1, vi a3], (Wd S L F G h))) (by decide) [0, 0, 0] rfl ⟨trivial, ⟨g15, c16⟩⟩ ?_
            by_cases c19 : a3 = 1
            · rw [if_pos c19] at H
              refine pt103 (s' := (14, [some (vi a3)], [vi 1], (Wd S L F G h))) (by decide) [0, 0, 0] rfl ⟨trivial, ⟨⟨g15, (by decide : R32 1)⟩, c19⟩⟩ ?_
              refine wp.fin (v := some (vi 1)) (by decide) am_m103 rfl ⟨_, rfl, Or.inr ⟨rfl, Or.inr rfl⟩, rfl⟩ ?_
              show wp 8 76 (28, [some (vr 0), some (vi a1), some (vi a2), some (vi a3)], [vi 1], (Wd S L F G h)) _
              refine pt76 (s' := (39, [some (vr 0), some (vi a1), some (vi a2), some (vi a3)], [vi a2, vi a1, vr 1], (Wd S L F G h))) (by decide) [1, 0, 1, 0, 0] rfl ⟨⟨trivial, ⟨(by decide : R32 1), (by decide : ¬ (1 : Int) = (0 : Int))⟩⟩, ⟨Nat.le_of_ble_eq_true rfl, rfl, hh _ _ _ rfl⟩⟩ ?_
              refine wp.cl am_m76 rfl am_m10 7 [vr 1, vi a1, vi a2] [] rfl (Nat.le_of_ble_eq_true rfl) ⟨(Nat.le_of_ble_eq_true rfl), (Nat.le_of_ble_eq_true rfl)⟩ rfl (Nat.le_of_ble_eq_true rfl) rfl (Nat.le_of_ble_eq_true rfl) (Nat.le_of_ble_eq_true rfl) trivial ?_
              refine wp.mono H ?_
              rintro v w1 ⟨v20, rfl, rfl, H⟩
              show wp 8 76 (42, [some (vr 0), some (vi a1), some (vi a2), some (vi a3)], [vj v20], (Wd S L F G h)) _
              refine pt76 (s' := (46, [some (vr 0), some (vi a1), some (vi a2), some (vi a3)], [vi a3, vj 360360, vj v20], (Wd S L F G h))) (by decide) [0, 0] rfl trivial ?_
              refine wp.cl am_m76 rfl am_m105 7 [vj v20, vj 360360, vi a3] [] rfl (Nat.le_of_ble_eq_true rfl) ⟨(Nat.le_of_ble_eq_true rfl), (Nat.le_of_ble_eq_true rfl)⟩ rfl (Nat.le_of_ble_eq_true rfl) rfl (Nat.le_of_ble_eq_true rfl) (Nat.le_of_ble_eq_true rfl) trivial ?_
              refine wp.mono H ?_
              rintro v w1 ⟨v21, rfl, rfl, H⟩
              show wp 8 76 (49, [some (vr 0), some (vi a1), some (vi a2), some (vi a3)], [vj v21], (Wd S L F G h)) _
              refine pt76 (s' := (50, [some (vr 0), some (vi a1), some (vi a2), some (vi a3)], [vi v21], (Wd S L F G h))) (by decide) [0] rfl trivial ?_
              exact wp.fin (v := some (vi v21)) (by decide) am_m76 rfl ⟨_, rfl, Or.inl rfl, rfl⟩ H
            · rw [if_neg c19] at H
              refine pt103 (s' := (14, [some (vi a3)], [vi 0], (Wd S L F G h))) (by decide) [1, 0] rfl ⟨trivial, ⟨⟨g15, (by decide : R32 1)⟩, c19⟩⟩ ?_
              refine wp.fin (v := some (vi 0)) (by decide) am_m103 rfl ⟨_, rfl, Or.inr ⟨rfl, Or.inl rfl⟩, rfl⟩ ?_
              show wp 8 76 (28, [some (vr 0), some (vi a1), some (vi a2), some (vi a3)], [vi 0], (Wd S L F G h)) _
              refine pt76 (s' := (32, [some (vr 0), some (vi a1), some (vi a2), some (vi a3)], [vi (-1)], (Wd S L F G h))) (by decide) [0, 0] rfl ⟨trivial, ⟨(by decide : R32 0), (by decide : (0 : Int) = (0 : Int))⟩⟩ ?_
              exact wp.fin (v := some (vi (-1))) (by decide) am_m76 rfl ⟨_, rfl, Or.inl rfl, rfl⟩ H
        · rw [if_neg c14] at H
          refine pt102 (s' := (14, [some (vi a2)], [vi 0], (Wd S L F G h))) (by decide) [1, 0] rfl ⟨trivial, ⟨⟨g5, (by decide : R32 1)⟩, c14⟩⟩ ?_
          refine wp.fin (v := some (vi 0)) (by decide) am_m102 rfl ⟨_, rfl, Or.inr ⟨rfl, Or.inl rfl⟩, rfl⟩ ?_
          show wp 8 76 (21, [some (vr 0), some (vi a1), some (vi a2), some (vi a3)], [vi 0], (Wd S L F G h)) _
          refine pt76 (s' := (32, [some (vr 0), some (vi a1), some (vi a2), some (vi a3)], [vi (-1)], (Wd S L F G h))) (by decide) [1, 0] rfl ⟨trivial, ⟨(by decide : R32 0), (by decide : (0 : Int) = (0 : Int))⟩⟩ ?_
          exact wp.fin (v := some (vi (-1))) (by decide) am_m76 rfl ⟨_, rfl, Or.inl rfl, rfl⟩ H
