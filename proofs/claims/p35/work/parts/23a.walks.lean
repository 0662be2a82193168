/-! the methods walked, by program (wip/p35/sym.py) -/
set_option maxRecDepth 100000 in
set_option maxHeartbeats 4000000 in
theorem T1_0 {S L : Nat} {F G : Nat → Nat → Int} {h : Nat → Nat → Option Nat} (hh : RfH h)   {Q : Option V2 → W2 → Prop}
    (H : C2_0  (Wd S L F G h) (fun v w1 => ∃ (F1 : Nat → Nat → Int), v = none ∧ w1 = (Wd S L F1 G h) ∧
  C3_0  (Wd S L F1 G h) (fun v w1 => ∃ (F2 : Nat → Nat → Int), v = none ∧ w1 = (Wd S L F2 G h) ∧
   C5_0  (Wd S L F2 G h) (fun v w1 => ∃ (F3 : Nat → Nat → Int), v = none ∧ w1 = (Wd S L F3 G h) ∧
    C6_0  (Wd S L F3 G h) (fun v w1 => ∃ (F4 : Nat → Nat → Int), v = none ∧ w1 = (Wd S L F4 G h) ∧
     Q (none) (Wd S L F4 G h)))))) : C1_0  (Wd S L F G h) Q := by
  refine pt1 (s' := (2, [some (vr 275), some (vr 1)], [vr 1, vr 275], (Wd S L F G h))) (by decide) [0, 0] rfl trivial ?_
  refine wp.cl am_m1 rfl am_m2 9 [vr 275, vr 1] [] rfl (Nat.le_of_ble_eq_true rfl) ⟨(Nat.le_of_ble_eq_true rfl), (Nat.le_of_ble_eq_true rfl)⟩ rfl (Nat.le_of_ble_eq_true rfl) rfl (Nat.le_of_ble_eq_true rfl) (Nat.le_of_ble_eq_true rfl) ⟨_, _, rfl, Nat.le_of_ble_eq_true rfl, rfl⟩ ?_
  refine wp.mono H ?_
  rintro v w1 ⟨F1, rfl, rfl, H⟩
  show wp 10 1 (5, [some (vr 275), some (vr 1)], [], (Wd S L F1 G h)) _
  refine pt1 (s' := (7, [some (vr 275), some (vr 1)], [vr 1, vr 275], (Wd S L F1 G h))) (by decide) [0, 0] rfl trivial ?_
  refine wp.cl am_m1 rfl am_m3 7 [vr 275, vr 1] [] rfl (Nat.le_of_ble_eq_true rfl) ⟨(Nat.le_of_ble_eq_true rfl), (Nat.le_of_ble_eq_true rfl)⟩ rfl (Nat.le_of_ble_eq_true rfl) rfl (Nat.le_of_ble_eq_true rfl) (Nat.le_of_ble_eq_true rfl) ⟨_, _, rfl, Nat.le_of_ble_eq_true rfl, rfl⟩ ?_
  refine wp.mono H ?_
  rintro v w1 ⟨F2, rfl, rfl, H⟩
  show wp 10 1 (10, [some (vr 275), some (vr 1)], [], (Wd S L F2 G h)) _
  refine pt1 (s' := (12, [some (vr 275), some (vr 1)], [vr 1, vr 275], (Wd S L F2 G h))) (by decide) [0, 0] rfl trivial ?_
  refine wp.cl am_m1 rfl am_m5 6 [vr 275, vr 1] [] rfl (Nat.le_of_ble_eq_true rfl) ⟨(Nat.le_of_ble_eq_true rfl), (Nat.le_of_ble_eq_true rfl)⟩ rfl (Nat.le_of_ble_eq_true rfl) rfl (Nat.le_of_ble_eq_true rfl) (Nat.le_of_ble_eq_true rfl) ⟨_, _, rfl, Nat.le_of_ble_eq_true rfl, rfl⟩ ?_
  refine wp.mono H ?_
  rintro v w1 ⟨F3, rfl, rfl, H⟩
  show wp 10 1 (15, [some (vr 275), some (vr 1)], [], (Wd S L F3 G h)) _
  refine pt1 (s' := (16, [some (vr 275), some (vr 1)], [vr 275], (Wd S L F3 G h))) (by decide) [0] rfl trivial ?_
  refine wp.cl am_m1 rfl am_m6 6 [vr 275] [] rfl (Nat.le_of_ble_eq_true rfl) ⟨(Nat.le_of_ble_eq_true rfl), (Nat.le_of_ble_eq_true rfl)⟩ rfl (Nat.le_of_ble_eq_true rfl) rfl (Nat.le_of_ble_eq_true rfl) (Nat.le_of_ble_eq_true rfl) ⟨_, _, rfl, Nat.le_of_ble_eq_true rfl, rfl⟩ ?_
  refine wp.mono H ?_
  rintro v w1 ⟨F4, rfl, rfl, H⟩
  show wp 10 1 (19, [some (vr 275), some (vr 1)], [], (Wd S L F4 G h)) _
  exact wp.fin (v := none) (by decide) am_m1 rfl ⟨rfl, rfl, rfl⟩ H
set_option maxRecDepth 100000 in
set_option maxHeartbeats 4000000 in
theorem T2_0 {S L : Nat} {F G : Nat → Nat → Int} {h : Nat → Nat → Option Nat} (hh : RfH h)   {Q : Option V2 → W2 → Prop}
    (H : C2_4 0 0 (Wd S L F G h) Q) : C2_0  (Wd S L F G h) Q := by
  refine pt2 (s' := (4, [some (vr 275), some (vr 1), some (vi 0), some (vi 0), none], [], (Wd S L F G h))) (by decide) [0, 0, 0, 0] rfl trivial ?_
  exact wp.weak (a := [some (vr 275), some (vr 1), some (vi 0), some (vi 0), none]) ⟨rfl, rfl, rfl, rfl, trivial⟩ H
set_option maxRecDepth 100000 in
set_option maxHeartbeats 4000000 in
theorem T2_4 {S L : Nat} {F G : Nat → Nat → Int} {h : Nat → Nat → Option Nat} (hh : RfH h) {x2 : Int} {x3 : Int}  {Q : Option V2 → W2 → Prop}
    (H : (R32 x3 ∧
 R32 (F 1 6) ∧
 (if (F 1 6) ≤ x3 then
  Q (none) (Wd S L F G h)
 else
  ((0 ≤ x3 ∧ x3 < 12) ∧
  C29_0 (x2 + (F 7 x3.toNat)) (F 1 7) (F 1 8) (Wd S L F G h) (fun v w1 => ∃ (v5 : Int), v = some (vi v5) ∧ w1 = (Wd S L F G h) ∧
   C29_0 x2 (F 1 7) (F 1 8) (Wd S L F G h) (fun v w1 => ∃ (v6 : Int), v = some (vi v6) ∧ w1 = (Wd S L F G h) ∧
    C2_4 (x2 + (F 7 x3.toNat)) (x3 + 1) (Wd S L (am_up F 276 x3.toNat (v5 - v6)) G h) Q)))))) : C2_4 x2 x3 (Wd S L F G h) Q := by
  obtain ⟨g1, H⟩ := H
  obtain ⟨g2, H⟩ := H
  refine pt2 (s' := (9, [some (vr 275), some (vr 1), some (vi x2), some (vi x3), none], [vi (F 1 6), vi x3], (Wd S L F G h))) (by decide) [0, 0, 0] rfl ⟨trivial, ⟨Nat.le_of_ble_eq_true rfl, rfl⟩⟩ ?_
  by_cases c3 : (F 1 6) ≤ x3
  · rw [if_pos c3] at H
    refine pt2 (s' := (49, [some (vr 275), some (vr 1), some (vi x2), some (vi x3), none], [], (Wd S L F G h))) (by decide) [1] rfl ⟨trivial, ⟨⟨g1, g2⟩, c3⟩⟩ ?_
    exact wp.fin (v := none) (by decide) am_m2 rfl ⟨rfl, rfl, rfl⟩ H
  · rw [if_neg c3] at H
    obtain ⟨g4, H⟩ := H
    refine pt2 (s' := (30, [some (vr 275), some (vr 1), some (vi x2), some (vi x3), some (vi (x2 + (F 7 x3.toNat)))], [vi (x2 + (F 7 x3.toNat)), vr 1, vi x3, vr 276], (Wd S L F G h))) (by decide) [0, 0, 0, 7, 0, 0, 0, 0, 0, 276, 0, 0, 0] rfl ⟨⟨⟨⟨trivial, ⟨⟨g1, g2⟩, c3⟩⟩, ⟨Nat.le_of_ble_eq_true rfl, rfl, hh _ _ _ rfl⟩⟩, (ix ⟨Nat.le_of_ble_eq_true rfl, rfl⟩ g4)⟩, ⟨Nat.le_of_ble_eq_true rfl, rfl, hh _ _ _ rfl⟩⟩ ?_
    refine wp.cl am_m2 rfl am_m28 8 [vr 1, vi (x2 + (F 7 x3.toNat))] [vi x3, vr 276] rfl (Nat.le_of_ble_eq_true rfl) ⟨(Nat.le_of_ble_eq_true rfl), (Nat.le_of_ble_eq_true rfl)⟩ rfl (Nat.le_of_ble_eq_true rfl) rfl (Nat.le_of_ble_eq_true rfl) (Nat.le_of_ble_eq_true rfl) ⟨_, _, rfl, Nat.le_of_ble_eq_true rfl, rfl⟩ ?_
    refine pt28 (s' := (9, [some (vr 1), some (vi (x2 + (F 7 x3.toNat)))], [vi (F 1 8), vi (F 1 7), vi (x2 + (F 7 x3.toNat))], (Wd S L F G h))) (by decide) [0, 0, 0, 0, 0] rfl ⟨⟨trivial, ⟨Nat.le_of_ble_eq_true rfl, rfl⟩⟩, ⟨Nat.le_of_ble_eq_true rfl, rfl⟩⟩ ?_
    refine wp.cl am_m28 rfl am_m29 7 [vi (x2 + (F 7 x3.toNat)), vi (F 1 7), vi (F 1 8)] [] rfl (Nat.le_of_ble_eq_true rfl) ⟨(Nat.le_of_ble_eq_true rfl), (Nat.le_of_ble_eq_true rfl)⟩ rfl (Nat.le_of_ble_eq_true rfl) rfl (Nat.le_of_ble_eq_true rfl) (Nat.le_of_ble_eq_true rfl) trivial ?_
    refine wp.mono H ?_
    rintro v w1 ⟨v5, rfl, rfl, H⟩
    show wp 8 28 (12, [some (vr 1), some (vi (x2 + (F 7 x3.toNat)))], [vi v5], (Wd S L F G h)) _
    refine wp.fin (v := some (vi v5)) (by decide) am_m28 rfl ⟨_, rfl, Or.inl rfl, rfl⟩ ?_
    show wp 9 2 (33, [some (vr 275), some (vr 1), some (vi x2), some (vi x3), some (vi (x2 + (F 7 x3.toNat)))], [vi v5, vi x3, vr 276], (Wd S L F G h)) _
    refine pt2 (s' := (35, [some (vr 275), some (vr 1), some (vi x2), some (vi x3), some (vi (x2 + (F 7 x3.toNat)))], [vi x2, vr 1, vi v5, vi x3, vr 276], (Wd S L F G h))) (by decide) [0, 0] rfl trivial ?_
    refine wp.cl am_m2 rfl am_m28 8 [vr 1, vi x2] [vi v5, vi x3, vr 276] rfl (Nat.le_of_ble_eq_true rfl) ⟨(Nat.le_of_ble_eq_true rfl), (Nat.le_of_ble_eq_true rfl)⟩ rfl (Nat.le_of_ble_eq_true rfl) rfl (Nat.le_of_ble_eq_true rfl) (Nat.le_of_ble_eq_true rfl) ⟨_, _, rfl, Nat.le_of_ble_eq_true rfl, rfl⟩ ?_
    refine pt28 (s' := (9, [some (vr 1), some (vi x2)], [vi (F 1 8), vi (F 1 7), vi x2], (Wd S L F G h))) (by decide) [0, 0, 0, 0, 0] rfl ⟨⟨trivial, ⟨Nat.le_of_ble_eq_true rfl, rfl⟩⟩, ⟨Nat.le_of_ble_eq_true rfl, rfl⟩⟩ ?_
    refine wp.cl am_m28 rfl am_m29 7 [vi x2, vi (F 1 7), vi (F 1 8)] [] rfl (Nat.le_of_ble_eq_true rfl) ⟨(Nat.le_of_ble_eq_true rfl), (Nat.le_of_ble_eq_true rfl)⟩ rfl (Nat.le_of_ble_eq_true rfl) rfl (Nat.le_of_ble_eq_true rfl) (Nat.le_of_ble_eq_true rfl) trivial ?_
    refine wp.mono H ?_
    rintro v w1 ⟨v6, rfl, rfl, H⟩
    show wp 8 28 (12, [some (vr 1), some (vi x2)], [vi v6], (Wd S L F G h)) _
    refine wp.fin (v := some (vi v6)) (by decide) am_m28 rfl ⟨_, rfl, Or.inl rfl, rfl⟩ ?_
    show wp 9 2 (38, [some (vr 275), some (vr 1), some (vi x2), some (vi x3), some (vi (x2 + (F 7 x3.toNat)))], [vi v6, vi v5, vi x3, vr 276], (Wd S L F G h)) _
    refine pt2 (s' := (4, [some (vr 275), some (vr 1), some (vi (x2 + (F 7 x3.toNat))), some (vi (x3 + 1)), some (vi (x2 + (F 7 x3.toNat)))], [], (Wd S L (am_up F 276 x3.toNat (v5 - v6)) G h))) (by decide) [0, 0, 0, 0, 0, 0] rfl ⟨trivial, (ix ⟨Nat.le_of_ble_eq_true rfl, rfl⟩ g4)⟩ ?_
    exact wp.weak (a := [some (vr 275), some (vr 1), some (vi (x2 + (F 7 x3.toNat))), some (vi (x3 + 1)), none]) ⟨rfl, rfl, rfl, rfl, trivial⟩ H
set_option maxRecDepth 100000 in
set_option maxHeartbeats 4000000 in
theorem T3_0 {S L : Nat} {F G : Nat → Nat → Int} {h : Nat → Nat → Option Nat} (hh : RfH h)   {Q : Option V2 → W2 → Prop}
    (H : C3_12 0 (Wd S L (am_up (am_up F 275 3 0) 275 4 0) G h) Q) : C3_0  (Wd S L F G h) Q := by
  refine pt3 (s' := (12, [some (vr 275), some (vr 1), some (vi 0), none], [], (Wd S L (am_up (am_up F 275 3 0) 275 4 0) G h))) (by decide) [0, 0, 0, 0, 0, 0, 0, 0] rfl ⟨⟨trivial, ⟨Nat.le_of_ble_eq_true rfl, rfl, fun h => by cases h⟩⟩, ⟨Nat.le_of_ble_eq_true rfl, rfl, fun h => by cases h⟩⟩ ?_
  exact wp.weak (a := [some (vr 275), some (vr 1), some (vi 0), none]) ⟨rfl, rfl, rfl, trivial⟩ H
set_option maxRecDepth 100000 in
set_option maxHeartbeats 4000000 in
theorem T3_12 {S L : Nat} {F G : Nat → Nat → Int} {h : Nat → Nat → Option Nat} (hh : RfH h) {x2 : Int}  {Q : Option V2 → W2 → Prop}
    (H : (R32 x2 ∧
 R32 (F 1 6) ∧
 (if (F 1 6) ≤ x2 then
  Q (none) (Wd S L F G h)
 else
  ((0 ≤ x2 ∧ x2 < 12) ∧
  (0 ≤ (F 6 x2.toNat) ∧ (F 6 x2.toNat) < 12) ∧
  (0 ≤ (F 4 (F 6 x2.toNat).toNat) ∧ (F 4 (F 6 x2.toNat).toNat) < 8) ∧
  R32 (F 2 (F 4 (F 6 x2.toNat).toNat).toNat) ∧
  (if (F 2 (F 4 (F 6 x2.toNat).toNat).toNat) = 0 then
   (R32 (F 276 x2.toNat) ∧
   (if (F 276 x2.toNat) = 0 then
    C4_0 x2 (F 1 6) (Wd S L F G h) (fun v w1 => ∃ (v11 : Int) (F12 : Nat → Nat → Int), v = some (vi v11) ∧ w1 = (Wd S L F12 G h) ∧
     (R32 ((am_up F12 277 x2.toNat v11) 277 x2.toNat) ∧
     (if ((am_up F12 277 x2.toNat v11) 277 x2.toNat) = 0 then
      (R32 (F12 276 x2.toNat) ∧
      (if (F12 276 x2.toNat) = 0 then
       C3_12 (x2 + 1) (Wd S L (am_up (am_up (am_up (am_up F12 277 x2.toNat v11) 278 x2.toNat 1) 275 4 ((F12 275 4) + ((am_up (am_up F12 277 x2.toNat v11) 278 x2.toNat 1) 278 x2.toNat))) 275 3 ((F12 275 3) + 1)) G h) Q
      else
       C3_12 (x2 + 1) (Wd S L (am_up (am_up (am_up (am_up F12 277 x2.toNat v11) 278 x2.toNat 1) 275 4 ((F12 275 4) + ((am_up (am_up F12 277 x2.toNat v11) 278 x2.toNat 1) 278 x2.toNat))) 275 3 ((F12 275 3) + 0)) G h) Q))
     else
      (R32 (F12 276 x2.toNat) ∧
      (if (F12 276 x2.toNat) = 0 then
       C3_12 (x2 + 1) (Wd S L (am_up (am_up (am_up (am_up F12 277 x2.toNat v11) 278 x2.toNat 0) 275 4 ((F12 275 4) + ((am_up (am_up F12 277 x2.toNat v11) 278 x2.toNat 0) 278 x2.toNat))) 275 3 ((F12 275 3) + 1)) G h) Q
      else
       C3_12 (x2 + 1) (Wd S L (am_up (am_up (am_up (am_up F12 277 x2.toNat v11) 278 x2.toNat 0) 275 4 ((F12 275 4) + ((am_up (am_up F12 277 x2.toNat v11) 278 x2.toNat 0) 278 x2.toNat))) 275 3 ((F12 275 3) + 0)) G h) Q)))))
   else
    C3_12 (x2 + 1) (Wd S L (am_up (am_up (am_up (am_up F 277 x2.toNat 0) 278 x2.toNat 0) 275 4 ((F 275 4) + ((am_up (am_up F 277 x2.toNat 0) 278 x2.toNat 0) 278 x2.toNat))) 275 3 ((F 275 3) + 0)) G h) Q))
  else
   (R32 (F 276 x2.toNat) ∧
   (if (F 276 x2.toNat) = 0 then
    C3_12 (x2 + 1) (Wd S L (am_up (am_up (am_up (am_up F 277 x2.toNat 0) 278 x2.toNat 0) 275 4 ((F 275 4) + ((am_up (am_up F 277 x2.toNat 0) 278 x2.toNat 0) 278 x2.toNat))) 275 3 ((F 275 3) + 1)) G h) Q
   else
    C3_12 (x2 + 1) (Wd S L (am_up (am_up (am_up (am_up F 277 x2.toNat 0) 278 x2.toNat 0) 275 4 ((F 275 4) + ((am_up (am_up F 277 x2.toNat 0) 278 x2.toNat 0) 278 x2.toNat))) 275 3 ((F 275 3) + 0)) G h) Q))))))) : C3_12 x2 (Wd S L F G h) Q := by
  obtain ⟨g1, H⟩ := H
  obtain ⟨g2, H⟩ := H
  refine pt3 (s' := (17, [some (vr 275), some (vr 1), some (vi x2), none], [vi (F 1 6), vi x2], (Wd S L F G h))) (by decide) [0, 0, 0] rfl ⟨trivial, ⟨Nat.le_of_ble_eq_true rfl, rfl⟩⟩ ?_
  by_cases c3 : (F 1 6) ≤ x2
  · rw [if_pos c3] at H
    refine pt3 (s' := (139, [some (vr 275), some (vr 1), some (vi x2), none], [], (Wd S L F G h))) (by decide) [1] rfl ⟨trivial, ⟨⟨g1, g2⟩, c3⟩⟩ ?_
    exact wp.fin (v := none) (by decide) am_m3 rfl ⟨rfl, rfl, rfl⟩ H
  · rw [if_neg c3] at H
    obtain ⟨g4, H⟩ := H
    refine pt3 (s' := (27, [some (vr 275), some (vr 1), some (vi x2), none], [vi (F 6 x2.toNat), vr 1], (Wd S L F G h))) (by decide) [0, 0, 0, 6, 0, 0] rfl ⟨⟨⟨trivial, ⟨⟨g1, g2⟩, c3⟩⟩, ⟨Nat.le_of_ble_eq_true rfl, rfl, hh _ _ _ rfl⟩⟩, (ix ⟨Nat.le_of_ble_eq_true rfl, rfl⟩ g4)⟩ ?_
    refine wp.cl am_m3 rfl am_m26 6 [vr 1, vi (F 6 x2.toNat)] [] rfl (Nat.le_of_ble_eq_true rfl) ⟨(Nat.le_of_ble_eq_true rfl), (Nat.le_of_ble_eq_true rfl)⟩ rfl (Nat.le_of_ble_eq_true rfl) rfl (Nat.le_of_ble_eq_true rfl) (Nat.le_of_ble_eq_true rfl) ⟨_, _, rfl, Nat.le_of_ble_eq_true rfl, rfl⟩ ?_
    obtain ⟨g5, H⟩ := H
    obtain ⟨g6, H⟩ := H
    obtain ⟨g7, H⟩ := H
    refine pt26 (s' := (11, [some (vr 1), some (vi (F 6 x2.toNat))], [vi (F 2 (F 4 (F 6 x2.toNat).toNat).toNat)], (Wd S L F G h))) (by decide) [0, 2, 0, 4, 0, 0, 0] rfl ⟨⟨⟨⟨trivial, ⟨Nat.le_of_ble_eq_true rfl, rfl, hh _ _ _ rfl⟩⟩, ⟨Nat.le_of_ble_eq_true rfl, rfl, hh _ _ _ rfl⟩⟩, (ix ⟨Nat.le_of_ble_eq_true rfl, rfl⟩ g5)⟩, (ix ⟨Nat.le_of_ble_eq_true rfl, rfl⟩ g6)⟩ ?_
    by_cases c8 : (F 2 (F 4 (F 6 x2.toNat).toNat).toNat) = 0
    · rw [if_pos c8] at H
      refine pt26 (s' := (19, [some (vr 1), some (vi (F 6 x2.toNat))], [vi 1], (Wd S L F G h))) (by decide) [0, 0, 0] rfl ⟨trivial, ⟨g7, c8⟩⟩ ?_
      refine wp.fin (v := some (vi 1)) (by decide) am_m26 rfl ⟨_, rfl, Or.inr ⟨rfl, Or.inr rfl⟩, rfl⟩ ?_
      show wp 7 3 (30, [some (vr 275), some (vr 1), some (vi x2), none], [vi 1], (Wd S L F G h)) _
      obtain ⟨g9, H⟩ := H
      refine pt3 (s' := (39, [some (vr 275), some (vr 1), some (vi x2), none], [vi (F 276 x2.toNat)], (Wd S L F G h))) (by decide) [0, 0, 276, 0, 0] rfl ⟨⟨⟨trivial, ⟨(by decide : R32 1), (by decide : ¬ (1 : Int) = (0 : Int))⟩⟩, ⟨Nat.le_of_ble_eq_true rfl, rfl, hh _ _ _ rfl⟩⟩, (ix ⟨Nat.le_of_ble_eq_true rfl, rfl⟩ g4)⟩ ?_
      by_cases c10 : (F 276 x2.toNat) = 0
      · rw [if_pos c10] at H
        refine pt3 (s' := (63, [some (vr 275), some (vr 1), some (vi x2), some (vi 1)], [vi (F 1 6), vi x2, vr 275, vi x2, vr 277], (Wd S L F G h))) (by decide) [0, 0, 0, 0, 0, 277, 0, 0, 0, 0, 0, 0, 0] rfl ⟨⟨⟨⟨trivial, ⟨g9, c10⟩⟩, ⟨Nat.le_of_ble_eq_true rfl, rfl, hh _ _ _ rfl⟩⟩, ⟨(by decide : R32 1), (by decide : ¬ (1 : Int) = (0 : Int))⟩⟩, ⟨Nat.le_of_ble_eq_true rfl, rfl⟩⟩ ?_
        refine wp.cl am_m3 rfl am_m4 6 [vr 275, vi x2, vi (F 1 6)] [vi x2, vr 277] rfl (Nat.le_of_ble_eq_true rfl) ⟨(Nat.le_of_ble_eq_true rfl), (Nat.le_of_ble_eq_true rfl)⟩ rfl (Nat.le_of_ble_eq_true rfl) rfl (Nat.le_of_ble_eq_true rfl) (Nat.le_of_ble_eq_true rfl) ⟨_, _, rfl, Nat.le_of_ble_eq_true rfl, rfl⟩ ?_
        refine wp.mono H ?_
        rintro v w1 ⟨v11, F12, rfl, rfl, H⟩
        show wp 7 3 (66, [some (vr 275), some (vr 1), some (vi x2), some (vi 1)], [vi v11, vi x2, vr 277], (Wd S L F12 G h)) _
        obtain ⟨g13, H⟩ := H
        refine pt3 (s' := (86, [some (vr 275), some (vr 1), some (vi x2), some (vi 1)], [vi ((am_up F12 277 x2.toNat v11) 277 x2.toNat), vi x2, vr 278], (Wd S L (am_up F12 277 x2.toNat v11) G h))) (by decide) [0, 0, 0, 278, 0, 0, 0, 0, 277, 0, 0] rfl ⟨⟨⟨⟨⟨trivial, (ix ⟨Nat.le_of_ble_eq_true rfl, rfl⟩ g4)⟩, ⟨Nat.le_of_ble_eq_true rfl, rfl, hh _ _ _ rfl⟩⟩, ⟨(by decide : R32 1), (by decide : ¬ (1 : Int) = (0 : Int))⟩⟩, ⟨Nat.le_of_ble_eq_true rfl, rfl, hh _ _ _ rfl⟩⟩, (ix ⟨Nat.le_of_ble_eq_true rfl, rfl⟩ g4)⟩ ?_
        by_cases c14 : ((am_up F12 277 x2.toNat v11) 277 x2.toNat) = 0
        · rw [if_pos c14] at H
          obtain ⟨g15, H⟩ := H
          refine pt3 (s' := (121, [some (vr 275), some (vr 1), some (vi x2), some (vi 1)], [vi (F12 276 x2.toNat), vi (F12 275 3), vr 275], (Wd S L (am_up (am_up (am_up F12 277 x2.toNat v11) 278 x2.toNat 1) 275 4 ((F12 275 4) + ((am_up (am_up F12 277 x2.toNat v11) 278 x2.toNat 1) 278 x2.toNat))) G h))) (by decide) [0, 0, 0, 0, 0, 0, 0, 0, 278, 0, 0, 0, 0, 0, 0, 0, 0, 276, 0, 0] rfl ⟨⟨⟨⟨⟨⟨⟨⟨⟨trivial, ⟨g13, c14⟩⟩, (ix ⟨Nat.le_of_ble_eq_true rfl, rfl⟩ g4)⟩, ⟨Nat.le_of_ble_eq_true rfl, rfl⟩⟩, ⟨Nat.le_of_ble_eq_true rfl, rfl, hh _ _ _ rfl⟩⟩, (ix ⟨Nat.le_of_ble_eq_true rfl, rfl⟩ g4)⟩, ⟨Nat.le_of_ble_eq_true rfl, rfl, fun h => by cases h⟩⟩, ⟨Nat.le_of_ble_eq_true rfl, rfl⟩⟩, ⟨Nat.le_of_ble_eq_true rfl, rfl, hh _ _ _ rfl⟩⟩, (ix ⟨Nat.le_of_ble_eq_true rfl, rfl⟩ g4)⟩ ?_
          by_cases c16 : (F12 276 x2.toNat) = 0
          · rw [if_pos c16] at H
            refine pt3 (s' := (12, [some (vr 275), some (vr 1), some (vi (x2 + 1)), some (vi 1)], [], (Wd S L (am_up (am_up (am_up (am_up F12 277 x2.toNat v11) 278 x2.toNat 1) 275 4 ((F12 275 4) + ((am_up (am_up F12 277 x2.toNat v11) 278 x2.toNat 1) 278 x2.toNat))) 275 3 ((F12 275 3) + 1)) G h))) (by decide) [0, 0, 0, 0, 0, 0, 0] rfl ⟨⟨trivial, ⟨g15, c16⟩⟩, ⟨Nat.le_of_ble_eq_true rfl, rfl, fun h => by cases h⟩⟩ ?_
            exact wp.weak (a := [some (vr 275), some (vr 1), some (vi (x2 + 1)), none]) ⟨rfl, rfl, rfl, trivial⟩ H
          · rw [if_neg c16] at H
            refine pt3 (s' := (12, [some (vr 275), some (vr 1), some (vi (x2 + 1)), some (vi 1)], [], (Wd S L (am_up (am_up (am_up (am_up F12 277 x2.toNat v11) 278 x2.toNat 1) 275 4 ((F12 275 4) + ((am_up (am_up F12 277 x2.toNat v11) 278 x2.toNat 1) 278 x2.toNat))) 275 3 ((F12 275 3) + 0)) G h))) (by decide) [1, 0, 0, 0, 0, 0] rfl ⟨⟨trivial, ⟨g15, c16⟩⟩, ⟨Nat.le_of_ble_eq_true rfl, rfl, fun h => by cases h⟩⟩ ?_
            exact wp.weak (a := [some (vr 275), some (vr 1), some (vi (x2 + 1)), none]) ⟨rfl, rfl, rfl, trivial⟩ H
        · rw [if_neg c14] at H
          obtain ⟨g17, H⟩ := H
          refine pt3 (s' := (121, [some (vr 275), some (vr 1), some (vi x2), some (vi 1)], [vi (F12 276 x2.toNat), vi (F12 275 3), vr 275], (Wd S L (am_up (am_up (am_up F12 277 x2.toNat v11) 278 x2.toNat 0) 275 4 ((F12 275 4) + ((am_up (am_up F12 277 x2.toNat v11) 278 x2.toNat 0) 278 x2.toNat))) G h))) (by decide) [1, 0, 0, 0, 0, 0, 0, 278, 0, 0, 0, 0, 0, 0, 0, 0, 276, 0, 0] rfl ⟨⟨⟨⟨⟨⟨⟨⟨⟨trivial, ⟨g13, c14⟩⟩, (ix ⟨Nat.le_of_ble_eq_true rfl, rfl⟩ g4)⟩, ⟨Nat.le_of_ble_eq_true rfl, rfl⟩⟩, ⟨Nat.le_of_ble_eq_true rfl, rfl, hh _ _ _ rfl⟩⟩, (ix ⟨Nat.le_of_ble_eq_true rfl, rfl⟩ g4)⟩, ⟨Nat.le_of_ble_eq_true rfl, rfl, fun h => by cases h⟩⟩, ⟨Nat.le_of_ble_eq_true rfl, rfl⟩⟩, ⟨Nat.le_of_ble_eq_true rfl, rfl, hh _ _ _ rfl⟩⟩, (ix ⟨Nat.le_of_ble_eq_true rfl, rfl⟩ g4)⟩ ?_
          by_cases c18 : (F12 276 x2.toNat) = 0
          · rw [if_pos c18] at H
            refine pt3 (s' := (12, [some (vr 275), some (vr 1), some (vi (x2 + 1)), some (vi 1)], [], (Wd S L (am_up (am_up (am_up (am_up F12 277 x2.toNat v11) 278 x2.toNat 0) 275 4 ((F12 275 4) + ((am_up (am_up F12 277 x2.toNat v11) 278 x2.toNat 0) 278 x2.toNat))) 275 3 ((F12 275 3) + 1)) G h))) (by decide) [0, 0, 0, 0, 0, 0, 0] rfl ⟨⟨trivial, ⟨g17, c18⟩⟩, ⟨Nat.le_of_ble_eq_true rfl, rfl, fun h => by cases h⟩⟩ ?_
            exact wp.weak (a := [some (vr 275), some (vr 1), some (vi (x2 + 1)), none]) ⟨rfl, rfl, rfl, trivial⟩ H
          · rw [if_neg c18] at H
            refine pt3 (s' := (12, [some (vr 275), some (vr 1), some (vi (x2 + 1)), some (vi 1)], [], (Wd S L (am_up (am_up (am_up (am_up F12 277 x2.toNat v11) 278 x2.toNat 0) 275 4 ((F12 275 4) + ((am_up (am_up F12 277 x2.toNat v11) 278 x2.toNat 0) 278 x2.toNat))) 275 3 ((F12 275 3) + 0)) G h))) (by decide) [1, 0, 0, 0, 0, 0] rfl ⟨⟨trivial, ⟨g17, c18⟩⟩, ⟨Nat.le_of_ble_eq_true rfl, rfl, fun h => by cases h⟩⟩ ?_
            exact wp.weak (a := [some (vr 275), some (vr 1), some (vi (x2 + 1)), none]) ⟨rfl, rfl, rfl, trivial⟩ H
      · rw [if_neg c10] at H
        refine pt3 (s' := (12, [some (vr 275), some (vr 1), some (vi (x2 + 1)), some (vi 0)], [], (Wd S L (am_up (am_up (am_up (am_up F 277 x2.toNat 0) 278 x2.toNat 0) 275 4 ((F 275 4) + ((am_up (am_up F 277 x2.toNat 0) 278 x2.toNat 0) 278 x2.toNat))) 275 3 ((F 275 3) + 0)) G h))) (by decide) [1, 0, 0, 0, 277, 0, 0, 1, 0, 0, 0, 278, 0, 0, 1, 0, 0, 0, 0, 0, 0, 278, 0, 0, 0, 0, 0, 0, 0, 0, 276, 0, 0, 1, 0, 0, 0, 0, 0] rfl ⟨⟨⟨⟨⟨⟨⟨⟨⟨⟨⟨⟨⟨⟨⟨⟨trivial, ⟨g9, c10⟩⟩, ⟨Nat.le_of_ble_eq_true rfl, rfl, hh _ _ _ rfl⟩⟩, ⟨(by decide : R32 0), (by decide : (0 : Int) = (0 : Int))⟩⟩, (ix ⟨Nat.le_of_ble_eq_true rfl, rfl⟩ g4)⟩, ⟨Nat.le_of_ble_eq_true rfl, rfl, hh _ _ _ rfl⟩⟩, ⟨(by decide : R32 0), (by decide : (0 : Int) = (0 : Int))⟩⟩, (ix ⟨Nat.le_of_ble_eq_true rfl, rfl⟩ g4)⟩, ⟨Nat.le_of_ble_eq_true rfl, rfl⟩⟩, ⟨Nat.le_of_ble_eq_true rfl, rfl, hh _ _ _ rfl⟩⟩, (ix ⟨Nat.le_of_ble_eq_true rfl, rfl⟩ g4)⟩, ⟨Nat.le_of_ble_eq_true rfl, rfl, fun h => by cases h⟩⟩, ⟨Nat.le_of_ble_eq_true rfl, rfl⟩⟩, ⟨Nat.le_of_ble_eq_true rfl, rfl, hh _ _ _ rfl⟩⟩, (ix ⟨Nat.le_of_ble_eq_true rfl, rfl⟩ g4)⟩, ⟨g9, c10⟩⟩, ⟨Nat.le_of_ble_eq_true rfl, rfl, fun h => by cases h⟩⟩ ?_
        exact wp.weak (a := [some (vr 275), some (vr 1), some (vi (x2 + 1)), none]) ⟨rfl, rfl, rfl, trivial⟩ H
    · rw [if_neg c8] at H
      refine pt26 (s' := (19, [some (vr 1), some (vi (F 6 x2.toNat))], [vi 0], (Wd S L F G h))) (by decide) [1, 0] rfl ⟨trivial, ⟨g7, c8⟩⟩ ?_
      refine wp.fin (v := some (vi 0)) (by decide) am_m26 rfl ⟨_, rfl, Or.inr ⟨rfl, Or.inl rfl⟩, rfl⟩ ?_
      show wp 7 3 (30, [some (vr 275), some (vr 1), some (vi x2), none], [vi 0], (Wd S L F G h)) _
      obtain ⟨g19, H⟩ := H
      refine pt3 (s' := (121, [some (vr 275), some (vr 1), some (vi x2), some (vi 0)], [vi (F 276 x2.toNat), vi (F 275 3), vr 275], (Wd S L (am_up (am_up (am_up F 277 x2.toNat 0) 278 x2.toNat 0) 275 4 ((F 275 4) + ((am_up (am_up F 277 x2.toNat 0) 278 x2.toNat 0) 278 x2.toNat))) G h))) (by decide) [1, 0, 0, 0, 277, 0, 0, 1, 0, 0, 0, 278, 0, 0, 1, 0, 0, 0, 0, 0, 0, 278, 0, 0, 0, 0, 0, 0, 0, 0, 276, 0, 0] rfl ⟨⟨⟨⟨⟨⟨⟨⟨⟨⟨⟨⟨⟨⟨trivial, ⟨(by decide : R32 0), (by decide : (0 : Int) = (0 : Int))⟩⟩, ⟨Nat.le_of_ble_eq_true rfl, rfl, hh _ _ _ rfl⟩⟩, ⟨(by decide : R32 0), (by decide : (0 : Int) = (0 : Int))⟩⟩, (ix ⟨Nat.le_of_ble_eq_true rfl, rfl⟩ g4)⟩, ⟨Nat.le_of_ble_eq_true rfl, rfl, hh _ _ _ rfl⟩⟩, ⟨(by decide : R32 0), (by decide : (0 : Int) = (0 : Int))⟩⟩, (ix ⟨Nat.le_of_ble_eq_true rfl, rfl⟩ g4)⟩, ⟨Nat.le_of_ble_eq_true rfl, rfl⟩⟩, ⟨Nat.le_of_ble_eq_true rfl, rfl, hh _ _ _ rfl⟩⟩, (ix ⟨Nat.le_of_ble_eq_true rfl, rfl⟩ g4)⟩, ⟨Nat.le_of_ble_eq_true rfl, rfl, fun h => by cases h⟩⟩, ⟨Nat.le_of_ble_eq_true rfl, rfl⟩⟩, ⟨Nat.le_of_ble_eq_true rfl, rfl, hh _ _ _ rfl⟩⟩, (ix ⟨Nat.le_of_ble_eq_true rfl, rfl⟩ g4)⟩ ?_
      by_cases c20 : (F 276 x2.toNat) = 0
      · rw [if_pos c20] at H
        refine pt3 (s' := (12, [some (vr 275), some (vr 1), some (vi (x2 + 1)), some (vi 0)], [], (Wd S L (am_up (am_up (am_up (am_up F 277 x2.toNat 0) 278 x2.toNat 0) 275 4 ((F 275 4) + ((am_up (am_up F 277 x2.toNat 0) 278 x2.toNat 0) 278 x2.toNat))) 275 3 ((F 275 3) + 1)) G h))) (by decide) [0, 0, 0, 0, 0, 0, 0] rfl ⟨⟨trivial, ⟨g19, c20⟩⟩, ⟨Nat.le_of_ble_eq_true rfl, rfl, fun h => by cases h⟩⟩ ?_
        exact wp.weak (a := [some (vr 275), some (vr 1), some (vi (x2 + 1)), none]) ⟨rfl, rfl, rfl, trivial⟩ H
      · rw [if_neg c20] at H
        refine pt3 (s' := (12, [some (vr 275), some (vr 1), some (vi (x2 + 1)), some (vi 0)], [], (Wd S L (am_up (am_up (am_up (am_up F 277 x2.toNat 0) 278 x2.toNat 0) 275 4 ((F 275 4) + ((am_up (am_up F 277 x2.toNat 0) 278 x2.toNat 0) 278 x2.toNat))) 275 3 ((F 275 3) + 0)) G h))) (by decide) [1, 0, 0, 0, 0, 0] rfl ⟨⟨trivial, ⟨g19, c20⟩⟩, ⟨Nat.le_of_ble_eq_true rfl, rfl, fun h => by cases h⟩⟩ ?_
        exact wp.weak (a := [some (vr 275), some (vr 1), some (vi (x2 + 1)), none]) ⟨rfl, rfl, rfl, trivial⟩ H
set_option maxRecDepth 100000 in
set_option maxHeartbeats 4000000 in
theorem T4_0 {S L : Nat} {F G : Nat → Nat → Int} {h : Nat → Nat → Option Nat} (hh : RfH h) {a1 : Int} {a2 : Int}  {Q : Option V2 → W2 → Prop}
    (H : (R32 a1 ∧
 (if a1 ≤ 0 then
  (R32 (a1 + 1) ∧
  R32 a2 ∧
  (if a2 ≤ (a1 + 1) then
   Q (some (vi 0)) (Wd S L F G h)
  else
   ((0 ≤ (a1 + 1) ∧ (a1 + 1) < 12) ∧
   R32 (F 276 (a1 + 1).toNat) ∧
   (if (F 276 (a1 + 1).toNat) < 2 then
    Q (some (vi 0)) (Wd S L F G h)
   else
    ((0 ≤ a1 ∧ a1 < 12) ∧
    Q (some (vi 2)) (Wd S L (am_up (am_up F 276 (a1 + 1).toNat ((F 276 (a1 + 1).toNat) - 1)) 276 a1.toNat (((am_up F 276 (a1 + 1).toNat ((F 276 (a1 + 1).toNat) - 1)) 276 a1.toNat) + 1)) G h))))))
 else
  ((0 ≤ (a1 - 1) ∧ (a1 - 1) < 12) ∧
  R32 (F 276 (a1 - 1).toNat) ∧
  (if (F 276 (a1 - 1).toNat) < 2 then
   (R32 (a1 + 1) ∧
   R32 a2 ∧
   (if a2 ≤ (a1 + 1) then
    Q (some (vi 0)) (Wd S L F G h)
   else
    ((0 ≤ (a1 + 1) ∧ (a1 + 1) < 12) ∧
    R32 (F 276 (a1 + 1).toNat) ∧
    (if (F 276 (a1 + 1).toNat) < 2 then
     Q (some (vi 0)) (Wd S L F G h)
    else
     ((0 ≤ a1 ∧ a1 < 12) ∧
     Q (some (vi 2)) (Wd S L (am_up (am_up F 276 (a1 + 1).toNat ((F 276 (a1 + 1).toNat) - 1)) 276 a1.toNat (((am_up F 276 (a1 + 1).toNat ((F 276 (a1 + 1).toNat) - 1)) 276 a1.toNat) + 1)) G h))))))
  else
   ((0 ≤ a1 ∧ a1 < 12) ∧
   Q (some (vi 1)) (Wd S L (am_up (am_up F 276 (a1 - 1).toNat ((F 276 (a1 - 1).toNat) - 1)) 276 a1.toNat (((am_up F 276 (a1 - 1).toNat ((F 276 (a1 - 1).toNat) - 1)) 276 a1.toNat) + 1)) G h))))))) : C4_0 a1 a2 (Wd S L F G h) Q := by
  obtain ⟨g1, H⟩ := H
  refine pt4 (s' := (1, [some (vr 275), some (vi a1), some (vi a2)], [vi a1], (Wd S L F G h))) (by decide) [0] rfl trivial ?_
  by_cases c2 : a1 ≤ 0
  · rw [if_pos c2] at H
    obtain ⟨g3, H⟩ := H
    obtain ⟨g4, H⟩ := H
    refine pt4 (s' := (44, [some (vr 275), some (vi a1), some (vi a2)], [vi a2, vi (a1 + 1)], (Wd S L F G h))) (by decide) [1, 0, 0, 0, 0] rfl ⟨trivial, ⟨g1, c2⟩⟩ ?_
    by_cases c5 : a2 ≤ (a1 + 1)
    · rw [if_pos c5] at H
      refine pt4 (s' := (84, [some (vr 275), some (vi a1), some (vi a2)], [vi 0], (Wd S L F G h))) (by decide) [1, 0] rfl ⟨trivial, ⟨⟨g3, g4⟩, c5⟩⟩ ?_
      exact wp.fin (v := some (vi 0)) (by decide) am_m4 rfl ⟨_, rfl, Or.inl rfl, rfl⟩ H
    · rw [if_neg c5] at H
      obtain ⟨g6, H⟩ := H
      obtain ⟨g7, H⟩ := H
      refine pt4 (s' := (56, [some (vr 275), some (vi a1), some (vi a2)], [vi 2, vi (F 276 (a1 + 1).toNat)], (Wd S L F G h))) (by decide) [0, 0, 276, 0, 0, 0, 0, 0] rfl ⟨⟨⟨trivial, ⟨⟨g3, g4⟩, c5⟩⟩, ⟨Nat.le_of_ble_eq_true rfl, rfl, hh _ _ _ rfl⟩⟩, (ix ⟨Nat.le_of_ble_eq_true rfl, rfl⟩ g6)⟩ ?_
      by_cases c8 : (F 276 (a1 + 1).toNat) < 2
      · rw [if_pos c8] at H
        refine pt4 (s' := (84, [some (vr 275), some (vi a1), some (vi a2)], [vi 0], (Wd S L F G h))) (by decide) [1, 0] rfl ⟨trivial, ⟨⟨g7, (by decide : R32 2)⟩, c8⟩⟩ ?_
        exact wp.fin (v := some (vi 0)) (by decide) am_m4 rfl ⟨_, rfl, Or.inl rfl, rfl⟩ H
      · rw [if_neg c8] at H
        obtain ⟨g9, H⟩ := H
        refine pt4 (s' := (82, [some (vr 275), some (vi a1), some (vi a2)], [vi 2], (Wd S L (am_up (am_up F 276 (a1 + 1).toNat ((F 276 (a1 + 1).toNat) - 1)) 276 a1.toNat (((am_up F 276 (a1 + 1).toNat ((F 276 (a1 + 1).toNat) - 1)) 276 a1.toNat) + 1)) G h))) (by decide) [0, 0, 276, 0, 0, 0, 0, 0, 0, 0, 0, 0, 276, 0, 0, 0, 0, 0, 0, 0] rfl ⟨⟨⟨⟨⟨⟨⟨trivial, ⟨⟨g7, (by decide : R32 2)⟩, c8⟩⟩, ⟨Nat.le_of_ble_eq_true rfl, rfl, hh _ _ _ rfl⟩⟩, (ix ⟨Nat.le_of_ble_eq_true rfl, rfl⟩ g6)⟩, (ix ⟨Nat.le_of_ble_eq_true rfl, rfl⟩ g6)⟩, ⟨Nat.le_of_ble_eq_true rfl, rfl, hh _ _ _ rfl⟩⟩, (ix ⟨Nat.le_of_ble_eq_true rfl, rfl⟩ g9)⟩, (ix ⟨Nat.le_of_ble_eq_true rfl, rfl⟩ g9)⟩ ?_
        exact wp.fin (v := some (vi 2)) (by decide) am_m4 rfl ⟨_, rfl, Or.inl rfl, rfl⟩ H
  · rw [if_neg c2] at H
    obtain ⟨g10, H⟩ := H
    obtain ⟨g11, H⟩ := H
    refine pt4 (s' := (13, [some (vr 275), some (vi a1), some (vi a2)], [vi 2, vi (F 276 (a1 - 1).toNat)], (Wd S L F G h))) (by decide) [0, 0, 276, 0, 0, 0, 0, 0] rfl ⟨⟨⟨trivial, ⟨g1, c2⟩⟩, ⟨Nat.le_of_ble_eq_true rfl, rfl, hh _ _ _ rfl⟩⟩, (ix ⟨Nat.le_of_ble_eq_true rfl, rfl⟩ g10)⟩ ?_
    by_cases c12 : (F 276 (a1 - 1).toNat) < 2
    · rw [if_pos c12] at H
      obtain ⟨g13, H⟩ := H
      obtain ⟨g14, H⟩ := H
      refine pt4 (s' := (44, [some (vr 275), some (vi a1), some (vi a2)], [vi a2, vi (a1 + 1)], (Wd S L F G h))) (by decide) [1, 0, 0, 0, 0] rfl ⟨trivial, ⟨⟨g11, (by decide : R32 2)⟩, c12⟩⟩ ?_
      by_cases c15 : a2 ≤ (a1 + 1)
      · rw [if_pos c15] at H
        refine pt4 (s' := (84, [some (vr 275), some (vi a1), some (vi a2)], [vi 0], (Wd S L F G h))) (by decide) [1, 0] rfl ⟨trivial, ⟨⟨g13, g14⟩, c15⟩⟩ ?_
        exact wp.fin (v := some (vi 0)) (by decide) am_m4 rfl ⟨_, rfl, Or.inl rfl, rfl⟩ H
      · rw [if_neg c15] at H
        obtain ⟨g16, H⟩ := H
        obtain ⟨g17, H⟩ := H
        refine pt4 (s' := (56, [some (vr 275), some (vi a1), some (vi a2)], [vi 2, vi (F 276 (a1 + 1).toNat)], (Wd S L F G h))) (by decide) [0, 0, 276, 0, 0, 0, 0, 0] rfl ⟨⟨⟨trivial, ⟨⟨g13, g14⟩, c15⟩⟩, ⟨Nat.le_of_ble_eq_true rfl, rfl, hh _ _ _ rfl⟩⟩, (ix ⟨Nat.le_of_ble_eq_true rfl, rfl⟩ g16)⟩ ?_
        by_cases c18 : (F 276 (a1 + 1).toNat) < 2
        · rw [if_pos c18] at H
          refine pt4 (s' := (84, [some (vr 275), some (vi a1), some (vi a2)], [vi 0], (Wd S L F G h))) (by decide) [1, 0] rfl ⟨trivial, ⟨⟨g17, (by decide : R32 2)⟩, c18⟩⟩ ?_
          exact wp.fin (v := some (vi 0)) (by decide) am_m4 rfl ⟨_, rfl, Or.inl rfl, rfl⟩ H
        · rw [if_neg c18] at H
          obtain ⟨g19, H⟩ := H
          refine pt4 (s' := (82, [some (vr 275), some (vi a1), some (vi a2)], [vi 2], (Wd S L (am_up (am_up F 276 (a1 + 1).toNat ((F 276 (a1 + 1).toNat) - 1)) 276 a1.toNat (((am_up F 276 (a1 + 1).toNat ((F 276 (a1 + 1).toNat) - 1)) 276 a1.toNat) + 1)) G h))) (by decide) [0, 0, 276, 0, 0, 0, 0, 0, 0, 0, 0, 0, 276, 0, 0, 0, 0, 0, 0, 0] rfl ⟨⟨⟨⟨⟨⟨⟨trivial, ⟨⟨g17, (by decide : R32 2)⟩, c18⟩⟩, ⟨Nat.le_of_ble_eq_true rfl, rfl, hh _ _ _ rfl⟩⟩, (ix ⟨Nat.le_of_ble_eq_true rfl, rfl⟩ g16)⟩, (ix ⟨Nat.le_of_ble_eq_true rfl, rfl⟩ g16)⟩, ⟨Nat.le_of_ble_eq_true rfl, rfl, hh _ _ _ rfl⟩⟩, (ix ⟨Nat.le_of_ble_eq_true rfl, rfl⟩ g19)⟩, (ix ⟨Nat.le_of_ble_eq_true rfl, rfl⟩ g19)⟩ ?_
          exact wp.fin (v := some (vi 2)) (by decide) am_m4 rfl ⟨_, rfl, Or.inl rfl, rfl⟩ H
    · rw [if_neg c12] at H
      obtain ⟨g20, H⟩ := H
      refine pt4 (s' := (39, [some (vr 275), some (vi a1), some (vi a2)], [vi 1], (Wd S L (am_up (am_up F 276 (a1 - 1).toNat ((F 276 (a1 - 1).toNat) - 1)) 276 a1.toNat (((am_up F 276 (a1 - 1).toNat ((F 276 (a1 - 1).toNat) - 1)) 276 a1.toNat) + 1)) G h))) (by decide) [0, 0, 276, 0, 0, 0, 0, 0, 0, 0, 0, 0, 276, 0, 0, 0, 0, 0, 0, 0] rfl ⟨⟨⟨⟨⟨⟨⟨trivial, ⟨⟨g11, (by decide : R32 2)⟩, c12⟩⟩, ⟨Nat.le_of_ble_eq_true rfl, rfl, hh _ _ _ rfl⟩⟩, (ix ⟨Nat.le_of_ble_eq_true rfl, rfl⟩ g10)⟩, (ix ⟨Nat.le_of_ble_eq_true rfl, rfl⟩ g10)⟩, ⟨Nat.le_of_ble_eq_true rfl, rfl, hh _ _ _ rfl⟩⟩, (ix ⟨Nat.le_of_ble_eq_true rfl, rfl⟩ g20)⟩, (ix ⟨Nat.le_of_ble_eq_true rfl, rfl⟩ g20)⟩ ?_
      exact wp.fin (v := some (vi 1)) (by decide) am_m4 rfl ⟨_, rfl, Or.inl rfl, rfl⟩ H
set_option maxRecDepth 100000 in
set_option maxHeartbeats 4000000 in
theorem T5_0 {S L : Nat} {F G : Nat → Nat → Int} {h : Nat → Nat → Option Nat} (hh : RfH h)   {Q : Option V2 → W2 → Prop}
    (H : C5_7 0 (Wd S L (am_up F 275 7 0) G h) Q) : C5_0  (Wd S L F G h) Q := by
  refine pt5 (s' := (7, [some (vr 275), some (vr 1), some (vi 0), none], [], (Wd S L (am_up F 275 7 0) G h))) (by decide) [0, 0, 0, 0, 0] rfl ⟨trivial, ⟨Nat.le_of_ble_eq_true rfl, rfl, fun h => by cases h⟩⟩ ?_
  exact wp.weak (a := [some (vr 275), some (vr 1), some (vi 0), none]) ⟨rfl, rfl, rfl, trivial⟩ H
set_option maxRecDepth 100000 in
set_option maxHeartbeats 4000000 in
theorem T5_7 {S L : Nat} {F G : Nat → Nat → Int} {h : Nat → Nat → Option Nat} (hh : RfH h) {x2 : Int}  {Q : Option V2 → W2 → Prop}
    (H : (R32 x2 ∧
 R32 (F 1 6) ∧
 (if (F 1 6) ≤ x2 then
  Q (none) (Wd S L F G h)
 else
  C5_17 x2 0 (Wd S L F G h) Q))) : C5_7 x2 (Wd S L F G h) Q := by
  obtain ⟨g1, H⟩ := H
  obtain ⟨g2, H⟩ := H
  refine pt5 (s' := (12, [some (vr 275), some (vr 1), some (vi x2), none], [vi (F 1 6), vi x2], (Wd S L F G h))) (by decide) [0, 0, 0] rfl ⟨trivial, ⟨Nat.le_of_ble_eq_true rfl, rfl⟩⟩ ?_
  by_cases c3 : (F 1 6) ≤ x2
  · rw [if_pos c3] at H
    refine pt5 (s' := (88, [some (vr 275), some (vr 1), some (vi x2), none], [], (Wd S L F G h))) (by decide) [1] rfl ⟨trivial, ⟨⟨g1, g2⟩, c3⟩⟩ ?_
    exact wp.fin (v := none) (by decide) am_m5 rfl ⟨rfl, rfl, rfl⟩ H
  · rw [if_neg c3] at H
    refine pt5 (s' := (17, [some (vr 275), some (vr 1), some (vi x2), some (vi 0)], [], (Wd S L F G h))) (by decide) [0, 0, 0] rfl ⟨trivial, ⟨⟨g1, g2⟩, c3⟩⟩ ?_
    exact wp.weak (a := [some (vr 275), some (vr 1), some (vi x2), some (vi 0)]) ⟨rfl, rfl, rfl, rfl, trivial⟩ H
set_option maxRecDepth 100000 in
set_option maxHeartbeats 4000000 in
theorem T5_17 {S L : Nat} {F G : Nat → Nat → Int} {h : Nat → Nat → Option Nat} (hh : RfH h) {x2 : Int} {x3 : Int}  {Q : Option V2 → W2 → Prop}
    (H : ((0 ≤ x2 ∧ x2 < 12) ∧
 R32 x3 ∧
 R32 (F 276 x2.toNat) ∧
 (if (F 276 x2.toNat) ≤ x3 then
  C5_7 (x2 + 1) (Wd S L F G h) Q
 else
  (R32 (F 275 7) ∧
  (if 100 ≤ (F 275 7) then
   C5_7 (x2 + 1) (Wd S L F G h) Q
  else
   ((0 ≤ (F 275 7) ∧ (F 275 7) < 100) ∧
   (0 ≤ (F 6 x2.toNat) ∧ (F 6 x2.toNat) < 12) ∧
   C5_17 x2 (x3 + 1) (Wd S L (am_up (am_up (am_up F 279 (F 275 7).toNat x2) 280 (F 275 7).toNat (F 4 (F 6 x2.toNat).toNat)) 275 7 ((F 275 7) + 1)) G h) Q)))))) : C5_17 x2 x3 (Wd S L F G h) Q := by
  obtain ⟨g1, H⟩ := H
  obtain ⟨g2, H⟩ := H
  obtain ⟨g3, H⟩ := H
  refine pt5 (s' := (24, [some (vr 275), some (vr 1), some (vi x2), some (vi x3)], [vi (F 276 x2.toNat), vi x3], (Wd S L F G h))) (by decide) [0, 0, 276, 0, 0] rfl ⟨⟨trivial, ⟨Nat.le_of_ble_eq_true rfl, rfl, hh _ _ _ rfl⟩⟩, (ix ⟨Nat.le_of_ble_eq_true rfl, rfl⟩ g1)⟩ ?_
  by_cases c4 : (F 276 x2.toNat) ≤ x3
  · rw [if_pos c4] at H
    refine pt5 (s' := (7, [some (vr 275), some (vr 1), some (vi (x2 + 1)), some (vi x3)], [], (Wd S L F G h))) (by decide) [1, 0, 0] rfl ⟨trivial, ⟨⟨g2, g3⟩, c4⟩⟩ ?_
    exact wp.weak (a := [some (vr 275), some (vr 1), some (vi (x2 + 1)), none]) ⟨rfl, rfl, rfl, trivial⟩ H
  · rw [if_neg c4] at H
    obtain ⟨g5, H⟩ := H
    refine pt5 (s' := (33, [some (vr 275), some (vr 1), some (vi x2), some (vi x3)], [vi 100, vi (F 275 7)], (Wd S L F G h))) (by decide) [0, 0, 0, 0] rfl ⟨⟨trivial, ⟨⟨g2, g3⟩, c4⟩⟩, ⟨Nat.le_of_ble_eq_true rfl, rfl⟩⟩ ?_
    by_cases c6 : 100 ≤ (F 275 7)
    · rw [if_pos c6] at H
      refine pt5 (s' := (7, [some (vr 275), some (vr 1), some (vi (x2 + 1)), some (vi x3)], [], (Wd S L F G h))) (by decide) [1, 0, 0] rfl ⟨trivial, ⟨⟨g5, (by decide : R32 100)⟩, c6⟩⟩ ?_
      exact wp.weak (a := [some (vr 275), some (vr 1), some (vi (x2 + 1)), none]) ⟨rfl, rfl, rfl, trivial⟩ H
    · rw [if_neg c6] at H
      obtain ⟨g7, H⟩ := H
      obtain ⟨g8, H⟩ := H
      refine pt5 (s' := (17, [some (vr 275), some (vr 1), some (vi x2), some (vi (x3 + 1))], [], (Wd S L (am_up (am_up (am_up F 279 (F 275 7).toNat x2) 280 (F 275 7).toNat (F 4 (F 6 x2.toNat).toNat)) 275 7 ((F 275 7) + 1)) G h))) (by decide) [0, 0, 279, 0, 0, 0, 0, 0, 280, 0, 0, 0, 4, 0, 6, 0, 0, 0, 0, 0, 0, 0, 0, 0, 0, 0, 0] rfl ⟨⟨⟨⟨⟨⟨⟨⟨⟨⟨⟨⟨⟨trivial, ⟨⟨g5, (by decide : R32 100)⟩, c6⟩⟩, ⟨Nat.le_of_ble_eq_true rfl, rfl, hh _ _ _ rfl⟩⟩, ⟨Nat.le_of_ble_eq_true rfl, rfl⟩⟩, (ix ⟨Nat.le_of_ble_eq_true rfl, rfl⟩ g7)⟩, ⟨Nat.le_of_ble_eq_true rfl, rfl, hh _ _ _ rfl⟩⟩, ⟨Nat.le_of_ble_eq_true rfl, rfl⟩⟩, ⟨Nat.le_of_ble_eq_true rfl, rfl, hh _ _ _ rfl⟩⟩, ⟨Nat.le_of_ble_eq_true rfl, rfl, hh _ _ _ rfl⟩⟩, (ix ⟨Nat.le_of_ble_eq_true rfl, rfl⟩ g1)⟩, (ix ⟨Nat.le_of_ble_eq_true rfl, rfl⟩ g8)⟩, (ix ⟨Nat.le_of_ble_eq_true rfl, rfl⟩ g7)⟩, ⟨Nat.le_of_ble_eq_true rfl, rfl⟩⟩, ⟨Nat.le_of_ble_eq_true rfl, rfl, fun h => by cases h⟩⟩ ?_
      exact wp.weak (a := [some (vr 275), some (vr 1), some (vi x2), some (vi (x3 + 1))]) ⟨rfl, rfl, rfl, rfl, trivial⟩ H
set_option maxRecDepth 100000 in
set_option maxHeartbeats 4000000 in
theorem T6_0 {S L : Nat} {F G : Nat → Nat → Int} {h : Nat → Nat → Option Nat} (hh : RfH h)   {Q : Option V2 → W2 → Prop}
    (H : C6_19 0 0 (Wd S L (am_up (am_up (am_up F 275 8 0) 275 9 0) 275 10 0) G h) Q) : C6_0  (Wd S L F G h) Q := by
  refine pt6 (s' := (19, [some (vr 275), some (vi 0), some (vi 0)], [], (Wd S L (am_up (am_up (am_up F 275 8 0) 275 9 0) 275 10 0) G h))) (by decide) [0, 0, 0, 0, 0, 0, 0, 0, 0, 0, 0, 0, 0] rfl ⟨⟨⟨trivial, ⟨Nat.le_of_ble_eq_true rfl, rfl, fun h => by cases h⟩⟩, ⟨Nat.le_of_ble_eq_true rfl, rfl, fun h => by cases h⟩⟩, ⟨Nat.le_of_ble_eq_true rfl, rfl, fun h => by cases h⟩⟩ ?_
  exact wp.weak (a := [some (vr 275), some (vi 0), some (vi 0)]) ⟨rfl, rfl, rfl, trivial⟩ H
set_option maxRecDepth 100000 in
set_option maxHeartbeats 4000000 in
theorem T6_19 {S L : Nat} {F G : Nat → Nat → Int} {h : Nat → Nat → Option Nat} (hh : RfH h) {x1 : Int} {x2 : Int}  {Q : Option V2 → W2 → Prop}
    (H : (R32 x2 ∧
 R32 (F 275 7) ∧
 (if (F 275 7) ≤ x2 then
  Q (none) (Wd S L F G h)
 else
  (if x2 = 0 then
   (R32 ((x2 - x2) + 1) ∧
   R32 (F 275 9) ∧
   (if ((x2 - x2) + 1) ≤ (F 275 9) then
    C6_19 x2 (x2 + 1) (Wd S L (am_up F 275 8 ((F 275 8) + 1)) G h) Q
   else
    C6_19 x2 (x2 + 1) (Wd S L (am_up (am_up (am_up F 275 8 ((F 275 8) + 1)) 275 9 ((x2 - x2) + 1)) 275 10 x2) G h) Q))
  else
   ((0 ≤ x2 ∧ x2 < 100) ∧
   (0 ≤ (x2 - 1) ∧ (x2 - 1) < 100) ∧
   R32 (F 280 x2.toNat) ∧
   R32 (F 280 (x2 - 1).toNat) ∧
   (if (F 280 x2.toNat) = (F 280 (x2 - 1).toNat) then
    (R32 ((x2 - x1) + 1) ∧
    R32 (F 275 9) ∧
    (if ((x2 - x1) + 1) ≤ (F 275 9) then
     C6_19 x1 (x2 + 1) (Wd S L F G h) Q
    else
     C6_19 x1 (x2 + 1) (Wd S L (am_up (am_up F 275 9 ((x2 - x1) + 1)) 275 10 x1) G h) Q))
   else
    (R32 ((x2 - x2) + 1) ∧
    R32 (F 275 9) ∧
    (if ((x2 - x2) + 1) ≤ (F 275 9) then
     C6_19 x2 (x2 + 1) (Wd S L (am_up F 275 8 ((F 275 8) + 1)) G h) Q
    else
     C6_19 x2 (x2 + 1) (Wd S L (am_up (am_up (am_up F 275 8 ((F 275 8) + 1)) 275 9 ((x2 - x2) + 1)) 275 10 x2) G h) Q)))))))) : C6_19 x1 x2 (Wd S L F G h) Q := by
  obtain ⟨g1, H⟩ := H
  obtain ⟨g2, H⟩ := H
  refine pt6 (s' := (24, [some (vr 275), some (vi x1), some (vi x2)], [vi (F 275 7), vi x2], (Wd S L F G h))) (by decide) [0, 0, 0] rfl ⟨trivial, ⟨Nat.le_of_ble_eq_true rfl, rfl⟩⟩ ?_
  by_cases c3 : (F 275 7) ≤ x2
  · rw [if_pos c3] at H
    refine pt6 (s' := (92, [some (vr 275), some (vi x1), some (vi x2)], [], (Wd S L F G h))) (by decide) [1] rfl ⟨trivial, ⟨⟨g1, g2⟩, c3⟩⟩ ?_
    exact wp.fin (v := none) (by decide) am_m6 rfl ⟨rfl, rfl, rfl⟩ H
  · rw [if_neg c3] at H
    refine pt6 (s' := (28, [some (vr 275), some (vi x1), some (vi x2)], [vi x2], (Wd S L F G h))) (by decide) [0, 0] rfl ⟨trivial, ⟨⟨g1, g2⟩, c3⟩⟩ ?_
    by_cases c4 : x2 = 0
    · rw [if_pos c4] at H
      obtain ⟨g5, H⟩ := H
      obtain ⟨g6, H⟩ := H
      refine pt6 (s' := (69, [some (vr 275), some (vi x2), some (vi x2)], [vi (F 275 9), vi ((x2 - x2) + 1)], (Wd S L (am_up F 275 8 ((F 275 8) + 1)) G h))) (by decide) [1, 0, 0, 0, 0, 0, 0, 0, 0, 0, 0, 0, 0, 0, 0, 0] rfl ⟨⟨⟨⟨trivial, ⟨g1, c4⟩⟩, ⟨Nat.le_of_ble_eq_true rfl, rfl⟩⟩, ⟨Nat.le_of_ble_eq_true rfl, rfl, fun h => by cases h⟩⟩, ⟨Nat.le_of_ble_eq_true rfl, rfl⟩⟩ ?_
      by_cases c7 : ((x2 - x2) + 1) ≤ (F 275 9)
      · rw [if_pos c7] at H
        refine pt6 (s' := (19, [some (vr 275), some (vi x2), some (vi (x2 + 1))], [], (Wd S L (am_up F 275 8 ((F 275 8) + 1)) G h))) (by decide) [1, 0, 0] rfl ⟨trivial, ⟨⟨g5, g6⟩, c7⟩⟩ ?_
        exact wp.weak (a := [some (vr 275), some (vi x2), some (vi (x2 + 1))]) ⟨rfl, rfl, rfl, trivial⟩ H
      · rw [if_neg c7] at H
        refine pt6 (s' := (19, [some (vr 275), some (vi x2), some (vi (x2 + 1))], [], (Wd S L (am_up (am_up (am_up F 275 8 ((F 275 8) + 1)) 275 9 ((x2 - x2) + 1)) 275 10 x2) G h))) (by decide) [0, 0, 0, 0, 0, 0, 0, 0, 0, 0, 0, 0, 0] rfl ⟨⟨⟨trivial, ⟨⟨g5, g6⟩, c7⟩⟩, ⟨Nat.le_of_ble_eq_true rfl, rfl, fun h => by cases h⟩⟩, ⟨Nat.le_of_ble_eq_true rfl, rfl, fun h => by cases h⟩⟩ ?_
        exact wp.weak (a := [some (vr 275), some (vi x2), some (vi (x2 + 1))]) ⟨rfl, rfl, rfl, trivial⟩ H
    · rw [if_neg c4] at H
      obtain ⟨g8, H⟩ := H
      obtain ⟨g9, H⟩ := H
      obtain ⟨g10, H⟩ := H
      obtain ⟨g11, H⟩ := H
      refine pt6 (s' := (45, [some (vr 275), some (vi x1), some (vi x2)], [vi (F 280 (x2 - 1).toNat), vi (F 280 x2.toNat)], (Wd S L F G h))) (by decide) [0, 0, 280, 0, 0, 0, 280, 0, 0, 0, 0] rfl ⟨⟨⟨⟨⟨trivial, ⟨g1, c4⟩⟩, ⟨Nat.le_of_ble_eq_true rfl, rfl, hh _ _ _ rfl⟩⟩, (ix ⟨Nat.le_of_ble_eq_true rfl, rfl⟩ g8)⟩, ⟨Nat.le_of_ble_eq_true rfl, rfl, hh _ _ _ rfl⟩⟩, (ix ⟨Nat.le_of_ble_eq_true rfl, rfl⟩ g9)⟩ ?_
      by_cases c12 : (F 280 x2.toNat) = (F 280 (x2 - 1).toNat)
      · rw [if_pos c12] at H
        obtain ⟨g13, H⟩ := H
        obtain ⟨g14, H⟩ := H
        refine pt6 (s' := (69, [some (vr 275), some (vi x1), some (vi x2)], [vi (F 275 9), vi ((x2 - x1) + 1)], (Wd S L F G h))) (by decide) [1, 0, 0, 0, 0, 0, 0, 0] rfl ⟨⟨trivial, ⟨⟨g10, g11⟩, c12⟩⟩, ⟨Nat.le_of_ble_eq_true rfl, rfl⟩⟩ ?_
        by_cases c15 : ((x2 - x1) + 1) ≤ (F 275 9)
        · rw [if_pos c15] at H
          refine pt6 (s' := (19, [some (vr 275), some (vi x1), some (vi (x2 + 1))], [], (Wd S L F G h))) (by decide) [1, 0, 0] rfl ⟨trivial, ⟨⟨g13, g14⟩, c15⟩⟩ ?_
          exact wp.weak (a := [some (vr 275), some (vi x1), some (vi (x2 + 1))]) ⟨rfl, rfl, rfl, trivial⟩ H
        · rw [if_neg c15] at H
          refine pt6 (s' := (19, [some (vr 275), some (vi x1), some (vi (x2 + 1))], [], (Wd S L (am_up (am_up F 275 9 ((x2 - x1) + 1)) 275 10 x1) G h))) (by decide) [0, 0, 0, 0, 0, 0, 0, 0, 0, 0, 0, 0, 0] rfl ⟨⟨⟨trivial, ⟨⟨g13, g14⟩, c15⟩⟩, ⟨Nat.le_of_ble_eq_true rfl, rfl, fun h => by cases h⟩⟩, ⟨Nat.le_of_ble_eq_true rfl, rfl, fun h => by cases h⟩⟩ ?_
          exact wp.weak (a := [some (vr 275), some (vi x1), some (vi (x2 + 1))]) ⟨rfl, rfl, rfl, trivial⟩ H
      · rw [if_neg c12] at H
        obtain ⟨g16, H⟩ := H
        obtain ⟨g17, H⟩ := H
        refine pt6 (s' := (69, [some (vr 275), some (vi x2), some (vi x2)], [vi (F 275 9), vi ((x2 - x2) + 1)], (Wd S L (am_up F 275 8 ((F 275 8) + 1)) G h))) (by decide) [0, 0, 0, 0, 0, 0, 0, 0, 0, 0, 0, 0, 0, 0, 0, 0] rfl ⟨⟨⟨⟨trivial, ⟨⟨g10, g11⟩, c12⟩⟩, ⟨Nat.le_of_ble_eq_true rfl, rfl⟩⟩, ⟨Nat.le_of_ble_eq_true rfl, rfl, fun h => by cases h⟩⟩, ⟨Nat.le_of_ble_eq_true rfl, rfl⟩⟩ ?_
        by_cases c18 : ((x2 - x2) + 1) ≤ (F 275 9)
        · rw [if_pos c18] at H
          refine pt6 (s' := (19, [some (vr 275), some (vi x2), some (vi (x2 + 1))], [], (Wd S L (am_up F 275 8 ((F 275 8) + 1)) G h))) (by decide) [1, 0, 0] rfl ⟨trivial, ⟨⟨g16, g17⟩, c18⟩⟩ ?_
          exact wp.weak (a := [some (vr 275), some (vi x2), some (vi (x2 + 1))]) ⟨rfl, rfl, rfl, trivial⟩ H
        · rw [if_neg c18] at H
          refine pt6 (s' := (19, [some (vr 275), some (vi x2), some (vi (x2 + 1))], [], (Wd S L (am_up (am_up (am_up F 275 8 ((F 275 8) + 1)) 275 9 ((x2 - x2) + 1)) 275 10 x2) G h))) (by decide) [0, 0, 0, 0, 0, 0, 0, 0, 0, 0, 0, 0, 0] rfl ⟨⟨⟨trivial, ⟨⟨g16, g17⟩, c18⟩⟩, ⟨Nat.le_of_ble_eq_true rfl, rfl, fun h => by cases h⟩⟩, ⟨Nat.le_of_ble_eq_true rfl, rfl, fun h => by cases h⟩⟩ ?_
          exact wp.weak (a := [some (vr 275), some (vi x2), some (vi (x2 + 1))]) ⟨rfl, rfl, rfl, trivial⟩ H
set_option maxRecDepth 100000 in
set_option maxHeartbeats 4000000 in
theorem T7_0 {S L : Nat} {F G : Nat → Nat → Int} {h : Nat → Nat → Option Nat} (hh : RfH h) {a1 : Int}  {Q : Option V2 → W2 → Prop}
    (H : C7_4 a1 0 0 (Wd S L F G h) Q) : C7_0 a1 (Wd S L F G h) Q := by
  refine pt7 (s' := (4, [some (vr 275), some (vi a1), some (vi 0), some (vi 0)], [], (Wd S L F G h))) (by decide) [0, 0, 0, 0] rfl trivial ?_
  exact wp.weak (a := [some (vr 275), some (vi a1), some (vi 0), some (vi 0)]) ⟨rfl, rfl, rfl, rfl, trivial⟩ H
set_option maxRecDepth 100000 in
set_option maxHeartbeats 4000000 in
theorem T7_4 {S L : Nat} {F G : Nat → Nat → Int} {h : Nat → Nat → Option Nat} (hh : RfH h) {x1 : Int} {x2 : Int} {x3 : Int}  {Q : Option V2 → W2 → Prop}
    (H : (R32 x3 ∧
 R32 x1 ∧
 (if x1 ≤ x3 then
  Q (some (vi x2)) (Wd S L F G h)
 else
  ((0 ≤ x3 ∧ x3 < 12) ∧
  C7_4 x1 (x2 + (F 276 x3.toNat)) (x3 + 1) (Wd S L F G h) Q)))) : C7_4 x1 x2 x3 (Wd S L F G h) Q := by
  obtain ⟨g1, H⟩ := H
  obtain ⟨g2, H⟩ := H
  refine pt7 (s' := (6, [some (vr 275), some (vi x1), some (vi x2), some (vi x3)], [vi x1, vi x3], (Wd S L F G h))) (by decide) [0, 0] rfl trivial ?_
  by_cases c3 : x1 ≤ x3
  · rw [if_pos c3] at H
    refine pt7 (s' := (25, [some (vr 275), some (vi x1), some (vi x2), some (vi x3)], [vi x2], (Wd S L F G h))) (by decide) [1, 0] rfl ⟨trivial, ⟨⟨g1, g2⟩, c3⟩⟩ ?_
    exact wp.fin (v := some (vi x2)) (by decide) am_m7 rfl ⟨_, rfl, Or.inl rfl, rfl⟩ H
  · rw [if_neg c3] at H
    obtain ⟨g4, H⟩ := H
    refine pt7 (s' := (4, [some (vr 275), some (vi x1), some (vi (x2 + (F 276 x3.toNat))), some (vi (x3 + 1))], [], (Wd S L F G h))) (by decide) [0, 0, 0, 276, 0, 0, 0, 0, 0, 0] rfl ⟨⟨⟨trivial, ⟨⟨g1, g2⟩, c3⟩⟩, ⟨Nat.le_of_ble_eq_true rfl, rfl, hh _ _ _ rfl⟩⟩, (ix ⟨Nat.le_of_ble_eq_true rfl, rfl⟩ g4)⟩ ?_
    exact wp.weak (a := [some (vr 275), some (vi x1), some (vi (x2 + (F 276 x3.toNat))), some (vi (x3 + 1))]) ⟨rfl, rfl, rfl, rfl, trivial⟩ H
set_option maxRecDepth 100000 in
set_option maxHeartbeats 4000000 in
theorem T9_0 {S L : Nat} {F G : Nat → Nat → Int} {h : Nat → Nat → Option Nat} (hh : RfH h) {a2 : Int}  {Q : Option V2 → W2 → Prop}
    (H : C9_2 a2 0 (Wd S L F G h) Q) : C9_0 a2 (Wd S L F G h) Q := by
  refine pt9 (s' := (2, [some (vr 281), some (vr 1), some (vi a2), some (vi 0)], [], (Wd S L F G h))) (by decide) [0, 0] rfl trivial ?_
  exact wp.weak (a := [some (vr 281), some (vr 1), some (vi a2), some (vi 0)]) ⟨rfl, rfl, rfl, rfl, trivial⟩ H
set_option maxRecDepth 100000 in
set_option maxHeartbeats 4000000 in
theorem T9_2 {S L : Nat} {F G : Nat → Nat → Int} {h : Nat → Nat → Option Nat} (hh : RfH h) {x2 : Int} {x3 : Int}  {Q : Option V2 → W2 → Prop}
    (H : (R32 x3 ∧
 R32 (F 1 6) ∧
 (if (F 1 6) ≤ x3 then
  Q (none) (Wd S L F G h)
 else
  C10_0 x3 x2 (Wd S L F G h) (fun v w1 => ∃ (v4 : Int), v = some (vj v4) ∧ w1 = (Wd S L F G h) ∧
   ((0 ≤ x3 ∧ x3 < 12) ∧
   R32 x2 ∧
   (if x2 = 0 then
    ((0 ≤ (F 6 x3.toNat) ∧ (F 6 x3.toNat) < 12) ∧
    (0 ≤ (F 4 (F 6 x3.toNat).toNat) ∧ (F 4 (F 6 x3.toNat).toNat) < 8) ∧
    R32 (F 2 (F 4 (F 6 x3.toNat).toNat).toNat) ∧
    (if (F 2 (F 4 (F 6 x3.toNat).toNat).toNat) = 0 then
     C9_2 x2 (x3 + 1) (Wd S L (am_up F 283 x3.toNat 1) (am_up G 282 x3.toNat v4) h) Q
    else
     C9_2 x2 (x3 + 1) (Wd S L (am_up F 283 x3.toNat 0) (am_up G 282 x3.toNat v4) h) Q))
   else
    C9_2 x2 (x3 + 1) (Wd S L (am_up F 283 x3.toNat 0) (am_up G 282 x3.toNat v4) h) Q)))))) : C9_2 x2 x3 (Wd S L F G h) Q := by
  obtain ⟨g1, H⟩ := H
  obtain ⟨g2, H⟩ := H
  refine pt9 (s' := (7, [some (vr 281), some (vr 1), some (vi x2), some (vi x3)], [vi (F 1 6), vi x3], (Wd S L F G h))) (by decide) [0, 0, 0] rfl ⟨trivial, ⟨Nat.le_of_ble_eq_true rfl, rfl⟩⟩ ?_
  by_cases c3 : (F 1 6) ≤ x3
  · rw [if_pos c3] at H
    refine pt9 (s' := (56, [some (vr 281), some (vr 1), some (vi x2), some (vi x3)], [], (Wd S L F G h))) (by decide) [1] rfl ⟨trivial, ⟨⟨g1, g2⟩, c3⟩⟩ ?_
    exact wp.fin (v := none) (by decide) am_m9 rfl ⟨rfl, rfl, rfl⟩ H
  · rw [if_neg c3] at H
    refine pt9 (s' := (18, [some (vr 281), some (vr 1), some (vi x2), some (vi x3)], [vi x2, vi x3, vr 1, vi x3, vr 282], (Wd S L F G h))) (by decide) [0, 0, 282, 0, 0, 0, 0] rfl ⟨⟨trivial, ⟨⟨g1, g2⟩, c3⟩⟩, ⟨Nat.le_of_ble_eq_true rfl, rfl, hh _ _ _ rfl⟩⟩ ?_
    refine wp.cl am_m9 rfl am_m10 7 [vr 1, vi x3, vi x2] [vi x3, vr 282] rfl (Nat.le_of_ble_eq_true rfl) ⟨(Nat.le_of_ble_eq_true rfl), (Nat.le_of_ble_eq_true rfl)⟩ rfl (Nat.le_of_ble_eq_true rfl) rfl (Nat.le_of_ble_eq_true rfl) (Nat.le_of_ble_eq_true rfl) trivial ?_
    refine wp.mono H ?_
    rintro v w1 ⟨v4, rfl, rfl, H⟩
    show wp 8 9 (21, [some (vr 281), some (vr 1), some (vi x2), some (vi x3)], [vj v4, vi x3, vr 282], (Wd S L F G h)) _
    obtain ⟨g5, H⟩ := H
    obtain ⟨g6, H⟩ := H
    refine pt9 (s' := (28, [some (vr 281), some (vr 1), some (vi x2), some (vi x3)], [vi x2, vi x3, vr 283], (Wd S L F (am_up G 282 x3.toNat v4) h))) (by decide) [0, 0, 283, 0, 0] rfl ⟨⟨trivial, (ix ⟨Nat.le_of_ble_eq_true rfl, rfl⟩ g5)⟩, ⟨Nat.le_of_ble_eq_true rfl, rfl, hh _ _ _ rfl⟩⟩ ?_
    by_cases c7 : x2 = 0
    · rw [if_pos c7] at H
      refine pt9 (s' := (38, [some (vr 281), some (vr 1), some (vi x2), some (vi x3)], [vi (F 6 x3.toNat), vr 1, vi x3, vr 283], (Wd S L F (am_up G 282 x3.toNat v4) h))) (by decide) [0, 0, 0, 6, 0, 0] rfl ⟨⟨⟨trivial, ⟨g6, c7⟩⟩, ⟨Nat.le_of_ble_eq_true rfl, rfl, hh _ _ _ rfl⟩⟩, (ix ⟨Nat.le_of_ble_eq_true rfl, rfl⟩ g5)⟩ ?_
      refine wp.cl am_m9 rfl am_m26 6 [vr 1, vi (F 6 x3.toNat)] [vi x3, vr 283] rfl (Nat.le_of_ble_eq_true rfl) ⟨(Nat.le_of_ble_eq_true rfl), (Nat.le_of_ble_eq_true rfl)⟩ rfl (Nat.le_of_ble_eq_true rfl) rfl (Nat.le_of_ble_eq_true rfl) (Nat.le_of_ble_eq_true rfl) ⟨_, _, rfl, Nat.le_of_ble_eq_true rfl, rfl⟩ ?_
      obtain ⟨g8, H⟩ := H
      obtain ⟨g9, H⟩ := H
      obtain ⟨g10, H⟩ := H
      refine pt26 (s' := (11, [some (vr 1), some (vi (F 6 x3.toNat))], [vi (F 2 (F 4 (F 6 x3.toNat).toNat).toNat)], (Wd S L F (am_up G 282 x3.toNat v4) h))) (by decide) [0, 2, 0, 4, 0, 0, 0] rfl ⟨⟨⟨⟨trivial, ⟨Nat.le_of_ble_eq_true rfl, rfl, hh _ _ _ rfl⟩⟩, ⟨Nat.le_of_ble_eq_true rfl, rfl, hh _ _ _ rfl⟩⟩, (ix ⟨Nat.le_of_ble_eq_true rfl, rfl⟩ g8)⟩, (ix ⟨Nat.le_of_ble_eq_true rfl, rfl⟩ g9)⟩ ?_
      by_cases c11 : (F 2 (F 4 (F 6 x3.toNat).toNat).toNat) = 0
      · rw [if_pos c11] at H
        refine pt26 (s' := (19, [some (vr 1), some (vi (F 6 x3.toNat))], [vi 1], (Wd S L F (am_up G 282 x3.toNat v4) h))) (by decide) [0, 0, 0] rfl ⟨trivial, ⟨g10, c11⟩⟩ ?_
        refine wp.fin (v := some (vi 1)) (by decide) am_m26 rfl ⟨_, rfl, Or.inr ⟨rfl, Or.inr rfl⟩, rfl⟩ ?_
        show wp 8 9 (41, [some (vr 281), some (vr 1), some (vi x2), some (vi x3)], [vi 1, vi x3, vr 283], (Wd S L F (am_up G 282 x3.toNat v4) h)) _
        refine pt9 (s' := (2, [some (vr 281), some (vr 1), some (vi x2), some (vi (x3 + 1))], [], (Wd S L (am_up F 283 x3.toNat 1) (am_up G 282 x3.toNat v4) h))) (by decide) [0, 0, 0, 0, 0, 0] rfl ⟨⟨trivial, ⟨(by decide : R32 1), (by decide : ¬ (1 : Int) = (0 : Int))⟩⟩, (ixz ⟨Nat.le_of_ble_eq_true rfl, rfl⟩ g5 (Or.inr rfl))⟩ ?_
        exact wp.weak (a := [some (vr 281), some (vr 1), some (vi x2), some (vi (x3 + 1))]) ⟨rfl, rfl, rfl, rfl, trivial⟩ H
      · rw [if_neg c11] at H
        refine pt26 (s' := (19, [some (vr 1), some (vi (F 6 x3.toNat))], [vi 0], (Wd S L F (am_up G 282 x3.toNat v4) h))) (by decide) [1, 0] rfl ⟨trivial, ⟨g10, c11⟩⟩ ?_
        refine wp.fin (v := some (vi 0)) (by decide) am_m26 rfl ⟨_, rfl, Or.inr ⟨rfl, Or.inl rfl⟩, rfl⟩ ?_
        show wp 8 9 (41, [some (vr 281), some (vr 1), some (vi x2), some (vi x3)], [vi 0, vi x3, vr 283], (Wd S L F (am_up G 282 x3.toNat v4) h)) _
        refine pt9 (s' := (2, [some (vr 281), some (vr 1), some (vi x2), some (vi (x3 + 1))], [], (Wd S L (am_up F 283 x3.toNat 0) (am_up G 282 x3.toNat v4) h))) (by decide) [1, 0, 0, 0, 0] rfl ⟨⟨trivial, ⟨(by decide : R32 0), (by decide : (0 : Int) = (0 : Int))⟩⟩, (ixz ⟨Nat.le_of_ble_eq_true rfl, rfl⟩ g5 (Or.inl rfl))⟩ ?_
        exact wp.weak (a := [some (vr 281), some (vr 1), some (vi x2), some (vi (x3 + 1))]) ⟨rfl, rfl, rfl, rfl, trivial⟩ H
    · rw [if_neg c7] at H
      refine pt9 (s' := (2, [some (vr 281), some (vr 1), some (vi x2), some (vi (x3 + 1))], [], (Wd S L (am_up F 283 x3.toNat 0) (am_up G 282 x3.toNat v4) h))) (by decide) [1, 0, 0, 0, 0] rfl ⟨⟨trivial, ⟨g6, c7⟩⟩, (ixz ⟨Nat.le_of_ble_eq_true rfl, rfl⟩ g5 (Or.inl rfl))⟩ ?_
      exact wp.weak (a := [some (vr 281), some (vr 1), some (vi x2), some (vi (x3 + 1))]) ⟨rfl, rfl, rfl, rfl, trivial⟩ H
set_option maxRecDepth 100000 in
set_option maxHeartbeats 4000000 in
theorem T10_0 {S L : Nat} {F G : Nat → Nat → Int} {h : Nat → Nat → Option Nat} (hh : RfH h) {a1 : Int} {a2 : Int}  {Q : Option V2 → W2 → Prop}
    (H : ((0 ≤ a1 ∧ a1 < 12) ∧
 R32 a2 ∧
 (if a2 = 0 then
  ((0 ≤ (F 6 a1.toNat) ∧ (F 6 a1.toNat) < 12) ∧
  (0 ≤ (F 4 (F 6 a1.toNat).toNat) ∧ (F 4 (F 6 a1.toNat).toNat) < 8) ∧
  R32 (F 2 (F 4 (F 6 a1.toNat).toNat).toNat) ∧
  (if (F 2 (F 4 (F 6 a1.toNat).toNat).toNat) = 0 then
   Q (some (vj 0)) (Wd S L F G h)
  else
   C25_0 (F 6 a1.toNat) a2 (Wd S L F G h) (fun v w1 => ∃ (v8 : Int), v = some (vi v8) ∧ w1 = (Wd S L F G h) ∧
    C10_39 a1 a2 (3 * v8) 3 (a1 - 1) (Wd S L F G h) Q)))
 else
  C25_0 (F 6 a1.toNat) a2 (Wd S L F G h) (fun v w1 => ∃ (v9 : Int), v = some (vi v9) ∧ w1 = (Wd S L F G h) ∧
   C10_39 a1 a2 (3 * v9) 3 (a1 - 1) (Wd S L F G h) Q)))) : C10_0 a1 a2 (Wd S L F G h) Q := by
  obtain ⟨g1, H⟩ := H
  obtain ⟨g2, H⟩ := H
  refine pt10 (s' := (8, [some (vr 1), some (vi a1), some (vi a2), some (vi (F 6 a1.toNat)), none, none, none, none], [vi a2], (Wd S L F G h))) (by decide) [0, 6, 0, 0, 0, 0] rfl ⟨⟨trivial, ⟨Nat.le_of_ble_eq_true rfl, rfl, hh _ _ _ rfl⟩⟩, (ix ⟨Nat.le_of_ble_eq_true rfl, rfl⟩ g1)⟩ ?_
  by_cases c3 : a2 = 0
  · rw [if_pos c3] at H
    refine pt10 (s' := (13, [some (vr 1), some (vi a1), some (vi a2), some (vi (F 6 a1.toNat)), none, none, none, none], [vi (F 6 a1.toNat), vr 1], (Wd S L F G h))) (by decide) [0, 0, 0] rfl ⟨trivial, ⟨g2, c3⟩⟩ ?_
    refine wp.cl am_m10 rfl am_m26 6 [vr 1, vi (F 6 a1.toNat)] [] rfl (Nat.le_of_ble_eq_true rfl) ⟨(Nat.le_of_ble_eq_true rfl), (Nat.le_of_ble_eq_true rfl)⟩ rfl (Nat.le_of_ble_eq_true rfl) rfl (Nat.le_of_ble_eq_true rfl) (Nat.le_of_ble_eq_true rfl) ⟨_, _, rfl, Nat.le_of_ble_eq_true rfl, rfl⟩ ?_
    obtain ⟨g4, H⟩ := H
    obtain ⟨g5, H⟩ := H
    obtain ⟨g6, H⟩ := H
    refine pt26 (s' := (11, [some (vr 1), some (vi (F 6 a1.toNat))], [vi (F 2 (F 4 (F 6 a1.toNat).toNat).toNat)], (Wd S L F G h))) (by decide) [0, 2, 0, 4, 0, 0, 0] rfl ⟨⟨⟨⟨trivial, ⟨Nat.le_of_ble_eq_true rfl, rfl, hh _ _ _ rfl⟩⟩, ⟨Nat.le_of_ble_eq_true rfl, rfl, hh _ _ _ rfl⟩⟩, (ix ⟨Nat.le_of_ble_eq_true rfl, rfl⟩ g4)⟩, (ix ⟨Nat.le_of_ble_eq_true rfl, rfl⟩ g5)⟩ ?_
    by_cases c7 : (F 2 (F 4 (F 6 a1.toNat).toNat).toNat) = 0
    · rw [if_pos c7] at H
      refine pt26 (s' := (19, [some (vr 1), some (vi (F 6 a1.toNat))], [vi 1], (Wd S L F G h))) (by decide) [0, 0, 0] rfl ⟨trivial, ⟨g6, c7⟩⟩ ?_
      refine wp.fin (v := some (vi 1)) (by decide) am_m26 rfl ⟨_, rfl, Or.inr ⟨rfl, Or.inr rfl⟩, rfl⟩ ?_
      show wp 7 10 (16, [some (vr 1), some (vi a1), some (vi a2), some (vi (F 6 a1.toNat)), none, none, none, none], [vi 1], (Wd S L F G h)) _
      refine pt10 (s' := (20, [some (vr 1), some (vi a1), some (vi a2), some (vi (F 6 a1.toNat)), none, none, none, none], [vj 0], (Wd S L F G h))) (by decide) [0, 0] rfl ⟨trivial, ⟨(by decide : R32 1), (by decide : ¬ (1 : Int) = (0 : Int))⟩⟩ ?_
      exact wp.fin (v := some (vj 0)) (by decide) am_m10 rfl ⟨_, rfl, rfl, rfl⟩ H
    · rw [if_neg c7] at H
      refine pt26 (s' := (19, [some (vr 1), some (vi (F 6 a1.toNat))], [vi 0], (Wd S L F G h))) (by decide) [1, 0] rfl ⟨trivial, ⟨g6, c7⟩⟩ ?_
      refine wp.fin (v := some (vi 0)) (by decide) am_m26 rfl ⟨_, rfl, Or.inr ⟨rfl, Or.inl rfl⟩, rfl⟩ ?_
      show wp 7 10 (16, [some (vr 1), some (vi a1), some (vi a2), some (vi (F 6 a1.toNat)), none, none, none, none], [vi 0], (Wd S L F G h)) _
      refine pt10 (s' := (25, [some (vr 1), some (vi a1), some (vi a2), some (vi (F 6 a1.toNat)), none, none, none, none], [vi a2, vi (F 6 a1.toNat), vr 1, vi 3], (Wd S L F G h))) (by decide) [1, 0, 0, 0, 0] rfl ⟨trivial, ⟨(by decide : R32 0), (by decide : (0 : Int) = (0 : Int))⟩⟩ ?_
      refine wp.cl am_m10 rfl am_m25 6 [vr 1, vi (F 6 a1.toNat), vi a2] [vi 3] rfl (Nat.le_of_ble_eq_true rfl) ⟨(Nat.le_of_ble_eq_true rfl), (Nat.le_of_ble_eq_true rfl)⟩ rfl (Nat.le_of_ble_eq_true rfl) rfl (Nat.le_of_ble_eq_true rfl) (Nat.le_of_ble_eq_true rfl) ⟨_, _, rfl, Nat.le_of_ble_eq_true rfl, rfl⟩ ?_
      refine wp.mono H ?_
      rintro v w1 ⟨v8, rfl, rfl, H⟩
      show wp 7 10 (28, [some (vr 1), some (vi a1), some (vi a2), some (vi (F 6 a1.toNat)), none, none, none, none], [vi v8, vi 3], (Wd S L F G h)) _
      refine pt10 (s' := (39, [some (vr 1), some (vi a1), some (vi a2), some (vi (F 6 a1.toNat)), some (vi (3 * v8)), some (vi 3), some (vi (a1 - 1)), none], [], (Wd S L F G h))) (by decide) [0, 0, 0, 0, 0, 0, 0, 0] rfl trivial ?_
      exact wp.weak (a := [some (vr 1), some (vi a1), some (vi a2), none, some (vi (3 * v8)), some (vi 3), some (vi (a1 - 1)), none]) ⟨rfl, rfl, rfl, rfl, rfl, rfl, trivial⟩ H
  · rw [if_neg c3] at H
    refine pt10 (s' := (25, [some (vr 1), some (vi a1), some (vi a2), some (vi (F 6 a1.toNat)), none, none, none, none], [vi a2, vi (F 6 a1.toNat), vr 1, vi 3], (Wd S L F G h))) (by decide) [1, 0, 0, 0, 0] rfl ⟨trivial, ⟨g2, c3⟩⟩ ?_
    refine wp.cl am_m10 rfl am_m25 6 [vr 1, vi (F 6 a1.toNat), vi a2] [vi 3] rfl (Nat.le_of_ble_eq_true rfl) ⟨(Nat.le_of_ble_eq_true rfl), (Nat.le_of_ble_eq_true rfl)⟩ rfl (Nat.le_of_ble_eq_true rfl) rfl (Nat.le_of_ble_eq_true rfl) (Nat.le_of_ble_eq_true rfl) ⟨_, _, rfl, Nat.le_of_ble_eq_true rfl, rfl⟩ ?_
    refine wp.mono H ?_
    rintro v w1 ⟨v9, rfl, rfl, H⟩
    show wp 7 10 (28, [some (vr 1), some (vi a1), some (vi a2), some (vi (F 6 a1.toNat)), none, none, none, none], [vi v9, vi 3], (Wd S L F G h)) _
    refine pt10 (s' := (39, [some (vr 1), some (vi a1), some (vi a2), some (vi (F 6 a1.toNat)), some (vi (3 * v9)), some (vi 3), some (vi (a1 - 1)), none], [], (Wd S L F G h))) (by decide) [0, 0, 0, 0, 0, 0, 0, 0] rfl trivial ?_
    exact wp.weak (a := [some (vr 1), some (vi a1), some (vi a2), none, some (vi (3 * v9)), some (vi 3), some (vi (a1 - 1)), none]) ⟨rfl, rfl, rfl, rfl, rfl, rfl, trivial⟩ H
set_option maxRecDepth 100000 in
set_option maxHeartbeats 4000000 in
theorem T10_39 {S L : Nat} {F G : Nat → Nat → Int} {h : Nat → Nat → Option Nat} (hh : RfH h) {x1 : Int} {x2 : Int} {x4 : Int} {x5 : Int} {x6 : Int}  {Q : Option V2 → W2 → Prop}
    (H : (R32 x6 ∧
 R32 (x1 + 1) ∧
 (if (x1 + 1) < x6 then
  (R32 x4 ∧
  R32 x5 ∧
  (if x5 = 0 then
   Q (some (vj 0)) (Wd S L F G h)
  else
   (((0 : Int) ≤ (x4 * 360360) ∧ ((x4 * 360360) : Int) ≤ 9223372036854775807 ∧ 0 < x5 ∧ x5 ≤ 9223372036854775807) ∧
   Q (some (vj ((x4 * 360360) / x5))) (Wd S L F G h))))
 else
  (if x6 < 0 then
   C10_39 x1 x2 x4 x5 (x6 + 2) (Wd S L F G h) Q
  else
   (R32 ((F 1 6) - 1) ∧
   (if ((F 1 6) - 1) < x6 then
    C10_39 x1 x2 x4 x5 (x6 + 2) (Wd S L F G h) Q
   else
    ((0 ≤ x6 ∧ x6 < 12) ∧
    (0 ≤ (F 6 x6.toNat) ∧ (F 6 x6.toNat) < 12) ∧
    C25_0 (F 6 x6.toNat) x2 (Wd S L F G h) (fun v w1 => ∃ (v13 : Int), v = some (vi v13) ∧ w1 = (Wd S L F G h) ∧
     C10_39 x1 x2 (x4 + ((F 5 (F 6 x6.toNat).toNat) * v13)) (x5 + (F 5 (F 6 x6.toNat).toNat)) (x6 + 2) (Wd S L F G h) Q)))))))) : C10_39 x1 x2 x4 x5 x6 (Wd S L F G h) Q := by
  obtain ⟨g1, H⟩ := H
  obtain ⟨g2, H⟩ := H
  refine pt10 (s' := (44, [some (vr 1), some (vi x1), some (vi x2), none, some (vi x4), some (vi x5), some (vi x6), none], [vi (x1 + 1), vi x6], (Wd S L F G h))) (by decide) [0, 0, 0, 0] rfl trivial ?_
  by_cases c3 : (x1 + 1) < x6
  · rw [if_pos c3] at H
    obtain ⟨g4, H⟩ := H
    obtain ⟨g5, H⟩ := H
    refine pt10 (s' := (119, [some (vr 1), some (vi x1), some (vi x2), none, some (vi x4), some (vi x5), some (vi x6), none], [vj x5, vj (x4 * 360360)], (Wd S L F G h))) (by decide) [1, 0, 0, 0, 0, 0, 0] rfl ⟨⟨⟨trivial, ⟨⟨g1, g2⟩, c3⟩⟩, g4⟩, g5⟩ ?_
    refine wp.cl am_m10 rfl am_m106 6 [vj (x4 * 360360), vj x5] [] rfl (Nat.le_of_ble_eq_true rfl) ⟨(Nat.le_of_ble_eq_true rfl), (Nat.le_of_ble_eq_true rfl)⟩ rfl (Nat.le_of_ble_eq_true rfl) rfl (Nat.le_of_ble_eq_true rfl) (Nat.le_of_ble_eq_true rfl) trivial ?_
    refine pt106 (s' := (3, [some (vj (x4 * 360360)), none, some (vj x5), none], [vi (y_cmp x5 0)], (Wd S L F G h))) (by decide) [0, 0, 0] rfl ⟨trivial, (Or.inl ⟨(r64 g5), (by decide : R64 0)⟩)⟩ ?_
    by_cases c6 : x5 = 0
    · rw [if_pos c6] at H
      refine pt106 (s' := (13, [some (vj (x4 * 360360)), none, some (vj x5), none], [vj 0], (Wd S L F G h))) (by decide) [0, 0, 0] rfl ⟨trivial, ⟨y_cmp_r32, (y_cmp_eq.mpr c6)⟩⟩ ?_
      refine wp.fin (v := some (vj 0)) (by decide) am_m106 rfl ⟨_, rfl, rfl, rfl⟩ ?_
      show wp 7 10 (122, [some (vr 1), some (vi x1), some (vi x2), none, some (vi x4), some (vi x5), some (vi x6), none], [vj 0], (Wd S L F G h)) _
      exact wp.fin (v := some (vj 0)) (by decide) am_m10 rfl ⟨_, rfl, rfl, rfl⟩ H
    · rw [if_neg c6] at H
      obtain ⟨g7, H⟩ := H
      refine pt106 (s' := (13, [some (vj (x4 * 360360)), none, some (vj x5), none], [vj ((x4 * 360360) / x5)], (Wd S L F G h))) (by decide) [1, 0, 0, 0] rfl ⟨⟨trivial, ⟨y_cmp_r32, (y_cmp_ne.mpr c6)⟩⟩, g7⟩ ?_
      refine wp.fin (v := some (vj ((x4 * 360360) / x5))) (by decide) am_m106 rfl ⟨_, rfl, rfl, rfl⟩ ?_
      show wp 7 10 (122, [some (vr 1), some (vi x1), some (vi x2), none, some (vi x4), some (vi x5), some (vi x6), none], [vj ((x4 * 360360) / x5)], (Wd S L F G h)) _
      exact wp.fin (v := some (vj ((x4 * 360360) / x5))) (by decide) am_m10 rfl ⟨_, rfl, rfl, rfl⟩ H
  · rw [if_neg c3] at H
    refine pt10 (s' := (56, [some (vr 1), some (vi x1), some (vi x2), none, some (vi x4), some (vi x5), some (vi x6), none], [vi ((F 1 6) - 1), vi 0, vi x6], (Wd S L F G h))) (by decide) [0, 0, 0, 0, 0, 0, 0] rfl ⟨⟨trivial, ⟨⟨g1, g2⟩, c3⟩⟩, ⟨Nat.le_of_ble_eq_true rfl, rfl⟩⟩ ?_
    refine wp.cl am_m10 rfl am_m101 6 [vi x6, vi 0, vi ((F 1 6) - 1)] [] rfl (Nat.le_of_ble_eq_true rfl) ⟨(Nat.le_of_ble_eq_true rfl), (Nat.le_of_ble_eq_true rfl)⟩ rfl (Nat.le_of_ble_eq_true rfl) rfl (Nat.le_of_ble_eq_true rfl) (Nat.le_of_ble_eq_true rfl) trivial ?_
    refine pt101 (s' := (2, [some (vi x6), some (vi 0), some (vi ((F 1 6) - 1))], [vi 0, vi x6], (Wd S L F G h))) (by decide) [0, 0] rfl trivial ?_
    by_cases c8 : x6 < 0
    · rw [if_pos c8] at H
      refine pt101 (s' := (15, [some (vi x6), some (vi 0), some (vi ((F 1 6) - 1))], [vi 0], (Wd S L F G h))) (by decide) [1, 0] rfl ⟨trivial, ⟨⟨g1, (by decide : R32 0)⟩, c8⟩⟩ ?_
      refine wp.fin (v := some (vi 0)) (by decide) am_m101 rfl ⟨_, rfl, Or.inr ⟨rfl, Or.inl rfl⟩, rfl⟩ ?_
      show wp 7 10 (59, [some (vr 1), some (vi x1), some (vi x2), none, some (vi x4), some (vi x5), some (vi x6), none], [vi 0], (Wd S L F G h)) _
      refine pt10 (s' := (39, [some (vr 1), some (vi x1), some (vi x2), none, some (vi x4), some (vi x5), some (vi (x6 + 2)), none], [], (Wd S L F G h))) (by decide) [1, 0, 0] rfl ⟨trivial, ⟨(by decide : R32 0), (by decide : (0 : Int) = (0 : Int))⟩⟩ ?_
      exact wp.weak (a := [some (vr 1), some (vi x1), some (vi x2), none, some (vi x4), some (vi x5), some (vi (x6 + 2)), none]) ⟨rfl, rfl, rfl, rfl, rfl, rfl, trivial⟩ H
    · rw [if_neg c8] at H
      obtain ⟨g9, H⟩ := H
      refine pt101 (s' := (7, [some (vi x6), some (vi 0), some (vi ((F 1 6) - 1))], [vi ((F 1 6) - 1), vi x6], (Wd S L F G h))) (by decide) [0, 0, 0] rfl ⟨trivial, ⟨⟨g1, (by decide : R32 0)⟩, c8⟩⟩ ?_
      by_cases c10 : ((F 1 6) - 1) < x6
      · rw [if_pos c10] at H
        refine pt101 (s' := (15, [some (vi x6), some (vi 0), some (vi ((F 1 6) - 1))], [vi 0], (Wd S L F G h))) (by decide) [1, 0] rfl ⟨trivial, ⟨⟨g1, g9⟩, c10⟩⟩ ?_
        refine wp.fin (v := some (vi 0)) (by decide) am_m101 rfl ⟨_, rfl, Or.inr ⟨rfl, Or.inl rfl⟩, rfl⟩ ?_
        show wp 7 10 (59, [some (vr 1), some (vi x1), some (vi x2), none, some (vi x4), some (vi x5), some (vi x6), none], [vi 0], (Wd S L F G h)) _
        refine pt10 (s' := (39, [some (vr 1), some (vi x1), some (vi x2), none, some (vi x4), some (vi x5), some (vi (x6 + 2)), none], [], (Wd S L F G h))) (by decide) [1, 0, 0] rfl ⟨trivial, ⟨(by decide : R32 0), (by decide : (0 : Int) = (0 : Int))⟩⟩ ?_
        exact wp.weak (a := [some (vr 1), some (vi x1), some (vi x2), none, some (vi x4), some (vi x5), some (vi (x6 + 2)), none]) ⟨rfl, rfl, rfl, rfl, rfl, rfl, trivial⟩ H
      · rw [if_neg c10] at H
        refine pt101 (s' := (15, [some (vi x6), some (vi 0), some (vi ((F 1 6) - 1))], [vi 1], (Wd S L F G h))) (by decide) [0, 0, 0] rfl ⟨trivial, ⟨⟨g1, g9⟩, c10⟩⟩ ?_
        refine wp.fin (v := some (vi 1)) (by decide) am_m101 rfl ⟨_, rfl, Or.inr ⟨rfl, Or.inr rfl⟩, rfl⟩ ?_
        show wp 7 10 (59, [some (vr 1), some (vi x1), some (vi x2), none, some (vi x4), some (vi x5), some (vi x6), none], [vi 1], (Wd S L F G h)) _
        obtain ⟨g11, H⟩ := H
        obtain ⟨g12, H⟩ := H
        refine pt10 (s' := (84, [some (vr 1), some (vi x1), some (vi x2), none, some (vi x4), some (vi x5), some (vi x6), some (vi (F 6 x6.toNat))], [vi x2, vi (F 6 x6.toNat), vr 1, vi (F 5 (F 6 x6.toNat).toNat), vi x4], (Wd S L F G h))) (by decide) [0, 0, 6, 0, 0, 0, 0, 0, 5, 0, 0, 0, 0, 0] rfl ⟨⟨⟨⟨⟨trivial, ⟨(by decide : R32 1), (by decide : ¬ (1 : Int) = (0 : Int))⟩⟩, ⟨Nat.le_of_ble_eq_true rfl, rfl, hh _ _ _ rfl⟩⟩, (ix ⟨Nat.le_of_ble_eq_true rfl, rfl⟩ g11)⟩, ⟨Nat.le_of_ble_eq_true rfl, rfl, hh _ _ _ rfl⟩⟩, (ix ⟨Nat.le_of_ble_eq_true rfl, rfl⟩ g12)⟩ ?_
        refine wp.cl am_m10 rfl am_m25 6 [vr 1, vi (F 6 x6.toNat), vi x2] [vi (F 5 (F 6 x6.toNat).toNat), vi x4] rfl (Nat.le_of_ble_eq_true rfl) ⟨(Nat.le_of_ble_eq_true rfl), (Nat.le_of_ble_eq_true rfl)⟩ rfl (Nat.le_of_ble_eq_true rfl) rfl (Nat.le_of_ble_eq_true rfl) (Nat.le_of_ble_eq_true rfl) ⟨_, _, rfl, Nat.le_of_ble_eq_true rfl, rfl⟩ ?_
        refine wp.mono H ?_
        rintro v w1 ⟨v13, rfl, rfl, H⟩
        show wp 7 10 (87, [some (vr 1), some (vi x1), some (vi x2), none, some (vi x4), some (vi x5), some (vi x6), some (vi (F 6 x6.toNat))], [vi v13, vi (F 5 (F 6 x6.toNat).toNat), vi x4], (Wd S L F G h)) _
        refine pt10 (s' := (39, [some (vr 1), some (vi x1), some (vi x2), none, some (vi (x4 + ((F 5 (F 6 x6.toNat).toNat) * v13))), some (vi (x5 + (F 5 (F 6 x6.toNat).toNat))), some (vi (x6 + 2)), some (vi (F 6 x6.toNat))], [], (Wd S L F G h))) (by decide) [0, 0, 0, 0, 0, 5, 0, 0, 0, 0, 0, 0] rfl ⟨⟨trivial, ⟨Nat.le_of_ble_eq_true rfl, rfl, hh _ _ _ rfl⟩⟩, (ix ⟨Nat.le_of_ble_eq_true rfl, rfl⟩ g12)⟩ ?_
        exact wp.weak (a := [some (vr 1), some (vi x1), some (vi x2), none, some (vi (x4 + ((F 5 (F 6 x6.toNat).toNat) * v13))), some (vi (x5 + (F 5 (F 6 x6.toNat).toNat))), some (vi (x6 + 2)), none]) ⟨rfl, rfl, rfl, rfl, rfl, rfl, trivial⟩ H
set_option maxRecDepth 100000 in
set_option maxHeartbeats 4000000 in
theorem T11_0 {S L : Nat} {F G : Nat → Nat → Int} {h : Nat → Nat → Option Nat} (hh : RfH h) {a2 : Int} {a3 : Int}  {Q : Option V2 → W2 → Prop}
    (H : ((0 ≤ a2 ∧ a2 < 100) ∧
 (0 ≤ (F 279 a2.toNat) ∧ (F 279 a2.toNat) < 12) ∧
 R32 (F 283 (F 279 a2.toNat).toNat) ∧
 (if (F 283 (F 279 a2.toNat).toNat) = 0 then
  (R32 (a2 - a3) ∧
  R32 ((F 275 7) - 1) ∧
  R32 (a2 + a3) ∧
  C11_46 (if 0 < (a2 - a3) then (a2 - a3) else 0) (if (a2 + a3) < ((F 275 7) - 1) then (a2 + a3) else ((F 275 7) - 1)) 0 (if 0 < (a2 - a3) then (a2 - a3) else 0) (Wd S L F G h) Q)
 else
  Q (some (vj 0)) (Wd S L F G h)))) : C11_0 a2 a3 (Wd S L F G h) Q := by
  obtain ⟨g1, H⟩ := H
  obtain ⟨g2, H⟩ := H
  obtain ⟨g3, H⟩ := H
  refine pt11 (s' := (11, [some (vr 281), some (vr 275), some (vi a2), some (vi a3), none, none, none, none, none], [vi (F 283 (F 279 a2.toNat).toNat)], (Wd S L F G h))) (by decide) [0, 283, 0, 279, 0, 0, 0] rfl ⟨⟨⟨⟨trivial, ⟨Nat.le_of_ble_eq_true rfl, rfl, hh _ _ _ rfl⟩⟩, ⟨Nat.le_of_ble_eq_true rfl, rfl, hh _ _ _ rfl⟩⟩, (ix ⟨Nat.le_of_ble_eq_true rfl, rfl⟩ g1)⟩, (ix ⟨Nat.le_of_ble_eq_true rfl, rfl⟩ g2)⟩ ?_
  by_cases c4 : (F 283 (F 279 a2.toNat).toNat) = 0
  · rw [if_pos c4] at H
    obtain ⟨g5, H⟩ := H
    obtain ⟨g6, H⟩ := H
    obtain ⟨g7, H⟩ := H
    refine pt11 (s' := (46, [some (vr 281), some (vr 275), some (vi a2), some (vi a3), some (vi (if 0 < (a2 - a3) then (a2 - a3) else 0)), some (vi (if (a2 + a3) < ((F 275 7) - 1) then (a2 + a3) else ((F 275 7) - 1))), some (vj 0), none, some (vi (if 0 < (a2 - a3) then (a2 - a3) else 0))], [], (Wd S L F G h))) (by decide) [1, 0, 0, 0, 0, 0, 0, 0, 0, 0, 0, 0, 0, 0, 0, 0, 0, 0, 0, 0] rfl ⟨⟨⟨⟨trivial, ⟨g3, c4⟩⟩, ⟨Nat.le_of_ble_eq_true rfl, (by decide : R32 0), g5⟩⟩, ⟨Nat.le_of_ble_eq_true rfl, rfl⟩⟩, ⟨Nat.le_of_ble_eq_true rfl, g6, g7⟩⟩ ?_
    exact wp.weak (a := [some (vr 281), some (vr 275), none, none, some (vi (if 0 < (a2 - a3) then (a2 - a3) else 0)), some (vi (if (a2 + a3) < ((F 275 7) - 1) then (a2 + a3) else ((F 275 7) - 1))), some (vj 0), none, some (vi (if 0 < (a2 - a3) then (a2 - a3) else 0))]) ⟨rfl, rfl, rfl, rfl, rfl, rfl, trivial⟩ H
  · rw [if_neg c4] at H
    refine pt11 (s' := (15, [some (vr 281), some (vr 275), some (vi a2), some (vi a3), none, none, none, none, none], [vj 0], (Wd S L F G h))) (by decide) [0, 0] rfl ⟨trivial, ⟨g3, c4⟩⟩ ?_
    exact wp.fin (v := some (vj 0)) (by decide) am_m11 rfl ⟨_, rfl, rfl, rfl⟩ H
set_option maxRecDepth 100000 in
set_option maxHeartbeats 4000000 in
theorem T11_46 {S L : Nat} {F G : Nat → Nat → Int} {h : Nat → Nat → Option Nat} (hh : RfH h) {x4 : Int} {x5 : Int} {x6 : Int} {x8 : Int}  {Q : Option V2 → W2 → Prop}
    (H : (R32 x8 ∧
 R32 x5 ∧
 (if x5 < x8 then
  (R32 ((x5 - x4) + 1) ∧
  (if ((x5 - x4) + 1) = 0 then
   Q (some (vj 0)) (Wd S L F G h)
  else
   (((0 : Int) ≤ (x6 * 420) ∧ ((x6 * 420) : Int) ≤ 9223372036854775807 ∧ 0 < ((x5 - x4) + 1) ∧ ((x5 - x4) + 1) ≤ 9223372036854775807) ∧
   Q (some (vj ((x6 * 420) / ((x5 - x4) + 1)))) (Wd S L F G h))))
 else
  ((0 ≤ x8 ∧ x8 < 100) ∧
  (0 ≤ (F 279 x8.toNat) ∧ (F 279 x8.toNat) < 12) ∧
  C11_46 x4 x5 (x6 + (G 282 (F 279 x8.toNat).toNat)) (x8 + 1) (Wd S L F G h) Q)))) : C11_46 x4 x5 x6 x8 (Wd S L F G h) Q := by
  obtain ⟨g1, H⟩ := H
  obtain ⟨g2, H⟩ := H
  refine pt11 (s' := (50, [some (vr 281), some (vr 275), none, none, some (vi x4), some (vi x5), some (vj x6), none, some (vi x8)], [vi x5, vi x8], (Wd S L F G h))) (by decide) [0, 0] rfl trivial ?_
  by_cases c3 : x5 < x8
  · rw [if_pos c3] at H
    obtain ⟨g4, H⟩ := H
    refine pt11 (s' := (90, [some (vr 281), some (vr 275), none, none, some (vi x4), some (vi x5), some (vj x6), none, some (vi x8)], [vj ((x5 - x4) + 1), vj (x6 * 420)], (Wd S L F G h))) (by decide) [1, 0, 0, 0, 0, 0, 0, 0, 0, 0] rfl ⟨⟨trivial, ⟨⟨g1, g2⟩, c3⟩⟩, g4⟩ ?_
    refine wp.cl am_m11 rfl am_m106 6 [vj (x6 * 420), vj ((x5 - x4) + 1)] [] rfl (Nat.le_of_ble_eq_true rfl) ⟨(Nat.le_of_ble_eq_true rfl), (Nat.le_of_ble_eq_true rfl)⟩ rfl (Nat.le_of_ble_eq_true rfl) rfl (Nat.le_of_ble_eq_true rfl) (Nat.le_of_ble_eq_true rfl) trivial ?_
    refine pt106 (s' := (3, [some (vj (x6 * 420)), none, some (vj ((x5 - x4) + 1)), none], [vi (y_cmp ((x5 - x4) + 1) 0)], (Wd S L F G h))) (by decide) [0, 0, 0] rfl ⟨trivial, (Or.inl ⟨(r64 g4), (by decide : R64 0)⟩)⟩ ?_
    by_cases c5 : ((x5 - x4) + 1) = 0
    · rw [if_pos c5] at H
      refine pt106 (s' := (13, [some (vj (x6 * 420)), none, some (vj ((x5 - x4) + 1)), none], [vj 0], (Wd S L F G h))) (by decide) [0, 0, 0] rfl ⟨trivial, ⟨y_cmp_r32, (y_cmp_eq.mpr c5)⟩⟩ ?_
      refine wp.fin (v := some (vj 0)) (by decide) am_m106 rfl ⟨_, rfl, rfl, rfl⟩ ?_
      show wp 7 11 (93, [some (vr 281), some (vr 275), none, none, some (vi x4), some (vi x5), some (vj x6), none, some (vi x8)], [vj 0], (Wd S L F G h)) _
      exact wp.fin (v := some (vj 0)) (by decide) am_m11 rfl ⟨_, rfl, rfl, rfl⟩ H
    · rw [if_neg c5] at H
      obtain ⟨g6, H⟩ := H
      refine pt106 (s' := (13, [some (vj (x6 * 420)), none, some (vj ((x5 - x4) + 1)), none], [vj ((x6 * 420) / ((x5 - x4) + 1))], (Wd S L F G h))) (by decide) [1, 0, 0, 0] rfl ⟨⟨trivial, ⟨y_cmp_r32, (y_cmp_ne.mpr c5)⟩⟩, g6⟩ ?_
      refine wp.fin (v := some (vj ((x6 * 420) / ((x5 - x4) + 1)))) (by decide) am_m106 rfl ⟨_, rfl, rfl, rfl⟩ ?_
      show wp 7 11 (93, [some (vr 281), some (vr 275), none, none, some (vi x4), some (vi x5), some (vj x6), none, some (vi x8)], [vj ((x6 * 420) / ((x5 - x4) + 1))], (Wd S L F G h)) _
      exact wp.fin (v := some (vj ((x6 * 420) / ((x5 - x4) + 1)))) (by decide) am_m11 rfl ⟨_, rfl, rfl, rfl⟩ H
  · rw [if_neg c3] at H
    obtain ⟨g7, H⟩ := H
    obtain ⟨g8, H⟩ := H
    refine pt11 (s' := (46, [some (vr 281), some (vr 275), none, none, some (vi x4), some (vi x5), some (vj (x6 + (G 282 (F 279 x8.toNat).toNat))), none, some (vi (x8 + 1))], [], (Wd S L F G h))) (by decide) [0, 0, 0, 282, 0, 279, 0, 0, 0, 0, 0, 0, 0] rfl ⟨⟨⟨⟨⟨trivial, ⟨⟨g1, g2⟩, c3⟩⟩, ⟨Nat.le_of_ble_eq_true rfl, rfl, hh _ _ _ rfl⟩⟩, ⟨Nat.le_of_ble_eq_true rfl, rfl, hh _ _ _ rfl⟩⟩, (ix ⟨Nat.le_of_ble_eq_true rfl, rfl⟩ g7)⟩, (ix ⟨Nat.le_of_ble_eq_true rfl, rfl⟩ g8)⟩ ?_
    exact wp.weak (a := [some (vr 281), some (vr 275), none, none, some (vi x4), some (vi x5), some (vj (x6 + (G 282 (F 279 x8.toNat).toNat))), none, some (vi (x8 + 1))]) ⟨rfl, rfl, rfl, rfl, rfl, rfl, trivial⟩ H
set_option maxRecDepth 100000 in
set_option maxHeartbeats 4000000 in
theorem T12_0 {S L : Nat} {F G : Nat → Nat → Int} {h : Nat → Nat → Option Nat} (hh : RfH h) {a2 : Int}  {Q : Option V2 → W2 → Prop}
    (H : C12_5 a2 0 1 (Wd S L F G h) Q) : C12_0 a2 (Wd S L F G h) Q := by
  refine pt12 (s' := (5, [some (vr 281), some (vr 275), some (vi a2), some (vj 0), none, some (vi 1), none, none], [], (Wd S L F G h))) (by decide) [0, 0, 0, 0] rfl trivial ?_
  exact wp.weak (a := [some (vr 281), some (vr 275), some (vi a2), some (vj 0), none, some (vi 1), none, none]) ⟨rfl, rfl, rfl, rfl, rfl, trivial⟩ H
set_option maxRecDepth 100000 in
set_option maxHeartbeats 4000000 in
theorem T12_5 {S L : Nat} {F G : Nat → Nat → Int} {h : Nat → Nat → Option Nat} (hh : RfH h) {x2 : Int} {x3 : Int} {x5 : Int}  {Q : Option V2 → W2 → Prop}
    (H : (R32 x5 ∧
 R32 (F 275 7) ∧
 (if (F 275 7) ≤ x5 then
  Q (some (vj x3)) (Wd S L F G h)
 else
  C11_0 x5 x2 (Wd S L F G h) (fun v w1 => ∃ (v4 : Int), v = some (vj v4) ∧ w1 = (Wd S L F G h) ∧
   C11_0 (x5 - 1) x2 (Wd S L F G h) (fun v w1 => ∃ (v5 : Int), v = some (vj v5) ∧ w1 = (Wd S L F G h) ∧
    (R64 (v4 - v5) ∧
    R64 x3 ∧
    R64 (if 0 < (v4 - v5) then (v4 - v5) else -(v4 - v5)) ∧
    C12_5 x2 (if (if 0 < (v4 - v5) then (v4 - v5) else -(v4 - v5)) < x3 then x3 else (if 0 < (v4 - v5) then (v4 - v5) else -(v4 - v5))) (x5 + 1) (Wd S L F G h) Q)))))) : C12_5 x2 x3 x5 (Wd S L F G h) Q := by
  obtain ⟨g1, H⟩ := H
  obtain ⟨g2, H⟩ := H
  refine pt12 (s' := (11, [some (vr 281), some (vr 275), some (vi x2), some (vj x3), none, some (vi x5), none, none], [vi (F 275 7), vi x5], (Wd S L F G h))) (by decide) [0, 0, 0] rfl ⟨trivial, ⟨Nat.le_of_ble_eq_true rfl, rfl⟩⟩ ?_
  by_cases c3 : (F 275 7) ≤ x5
  · rw [if_pos c3] at H
    refine pt12 (s' := (52, [some (vr 281), some (vr 275), some (vi x2), some (vj x3), none, some (vi x5), none, none], [vj x3], (Wd S L F G h))) (by decide) [1, 0] rfl ⟨trivial, ⟨⟨g1, g2⟩, c3⟩⟩ ?_
    exact wp.fin (v := some (vj x3)) (by decide) am_m12 rfl ⟨_, rfl, rfl, rfl⟩ H
  · rw [if_neg c3] at H
    refine pt12 (s' := (19, [some (vr 281), some (vr 275), some (vi x2), some (vj x3), none, some (vi x5), none, none], [vi x2, vi x5, vr 275, vr 281], (Wd S L F G h))) (by decide) [0, 0, 0, 0, 0] rfl ⟨trivial, ⟨⟨g1, g2⟩, c3⟩⟩ ?_
    refine wp.cl am_m12 rfl am_m11 7 [vr 281, vr 275, vi x5, vi x2] [] rfl (Nat.le_of_ble_eq_true rfl) ⟨(Nat.le_of_ble_eq_true rfl), (Nat.le_of_ble_eq_true rfl)⟩ rfl (Nat.le_of_ble_eq_true rfl) rfl (Nat.le_of_ble_eq_true rfl) (Nat.le_of_ble_eq_true rfl) ⟨_, _, rfl, Nat.le_of_ble_eq_true rfl, rfl⟩ ?_
    refine wp.mono H ?_
    rintro v w1 ⟨v4, rfl, rfl, H⟩
    show wp 8 12 (22, [some (vr 281), some (vr 275), some (vi x2), some (vj x3), none, some (vi x5), none, none], [vj v4], (Wd S L F G h)) _
    refine pt12 (s' := (29, [some (vr 281), some (vr 275), some (vi x2), some (vj x3), none, some (vi x5), none, none], [vi x2, vi (x5 - 1), vr 275, vr 281, vj v4], (Wd S L F G h))) (by decide) [0, 0, 0, 0, 0, 0] rfl trivial ?_
    refine wp.cl am_m12 rfl am_m11 7 [vr 281, vr 275, vi (x5 - 1), vi x2] [vj v4] rfl (Nat.le_of_ble_eq_true rfl) ⟨(Nat.le_of_ble_eq_true rfl), (Nat.le_of_ble_eq_true rfl)⟩ rfl (Nat.le_of_ble_eq_true rfl) rfl (Nat.le_of_ble_eq_true rfl) (Nat.le_of_ble_eq_true rfl) ⟨_, _, rfl, Nat.le_of_ble_eq_true rfl, rfl⟩ ?_
    refine wp.mono H ?_
    rintro v w1 ⟨v5, rfl, rfl, H⟩
    show wp 8 12 (32, [some (vr 281), some (vr 275), some (vi x2), some (vj x3), none, some (vi x5), none, none], [vj v5, vj v4], (Wd S L F G h)) _
    obtain ⟨g6, H⟩ := H
    obtain ⟨g7, H⟩ := H
    obtain ⟨g8, H⟩ := H
    refine pt12 (s' := (5, [some (vr 281), some (vr 275), some (vi x2), some (vj (if (if 0 < (v4 - v5) then (v4 - v5) else -(v4 - v5)) < x3 then x3 else (if 0 < (v4 - v5) then (v4 - v5) else -(v4 - v5)))), none, some (vi (x5 + 1)), some (vj (if 0 < (v4 - v5) then (v4 - v5) else -(v4 - v5))), none], [], (Wd S L F G h))) (by decide) [0, 0, 0, 0, 0, 0, 0, 0, 0] rfl ⟨⟨trivial, ⟨Nat.le_of_ble_eq_true rfl, g6⟩⟩, ⟨Nat.le_of_ble_eq_true rfl, g7, g8⟩⟩ ?_
    exact wp.weak (a := [some (vr 281), some (vr 275), some (vi x2), some (vj (if (if 0 < (v4 - v5) then (v4 - v5) else -(v4 - v5)) < x3 then x3 else (if 0 < (v4 - v5) then (v4 - v5) else -(v4 - v5)))), none, some (vi (x5 + 1)), none, none]) ⟨rfl, rfl, rfl, rfl, rfl, trivial⟩ H
set_option maxRecDepth 100000 in
set_option maxHeartbeats 4000000 in
theorem T14_0 {S L : Nat} {F G : Nat → Nat → Int} {h : Nat → Nat → Option Nat} (hh : RfH h) {p1 : Nat} (tp1 : YTP p1) {Q : Option V2 → W2 → Prop}
    (H : (R32 (F 37 1) ∧
 (if (F 37 1) = 6 then
  C15_0  (Wd S L F G h) (fun v w1 => ∃ (F3 : Nat → Nat → Int) (h4 : Nat → Nat → Option Nat), v = none ∧ w1 = (Wd S L F3 G h4) ∧ RfH h4 ∧
   ((0 ≤ (F3 37 1) ∧ (F3 37 1) < 6) ∧
   ∃ q7 : Nat, h4 38 (F3 37 1).toNat = some q7 ∧ YTP q7 ∧
   C24_0 q7 p1 (Wd S L F3 G h4) (fun v w1 => ∃ (F10 : Nat → Nat → Int), v = none ∧ w1 = (Wd S L F10 G h4) ∧
    Q (none) (Wd S L (am_up F10 37 1 ((F10 37 1) + 1)) G h4))))
 else
  ((0 ≤ (F 37 1) ∧ (F 37 1) < 6) ∧
  ∃ q12 : Nat, h 38 (F 37 1).toNat = some q12 ∧ YTP q12 ∧
  C24_0 q12 p1 (Wd S L F G h) (fun v w1 => ∃ (F15 : Nat → Nat → Int), v = none ∧ w1 = (Wd S L F15 G h) ∧
   Q (none) (Wd S L (am_up F15 37 1 ((F15 37 1) + 1)) G h)))))) : C14_0 p1 (Wd S L F G h) Q := by
  obtain ⟨g1, H⟩ := H
  refine pt14 (s' := (6, [some (vr 37), some (vr p1)], [vi 6, vi (F 37 1)], (Wd S L F G h))) (by decide) [0, 0, 0] rfl ⟨trivial, ⟨Nat.le_of_ble_eq_true rfl, rfl⟩⟩ ?_
  by_cases c2 : (F 37 1) = 6
  · rw [if_pos c2] at H
    refine pt14 (s' := (10, [some (vr 37), some (vr p1)], [vr 37], (Wd S L F G h))) (by decide) [0, 0] rfl ⟨trivial, ⟨⟨g1, (by decide : R32 6)⟩, c2⟩⟩ ?_
    refine wp.cl am_m14 rfl am_m15 6 [vr 37] [] rfl (Nat.le_of_ble_eq_true rfl) ⟨(Nat.le_of_ble_eq_true rfl), (Nat.le_of_ble_eq_true rfl)⟩ rfl (Nat.le_of_ble_eq_true rfl) rfl (Nat.le_of_ble_eq_true rfl) (Nat.le_of_ble_eq_true rfl) ⟨_, _, rfl, Nat.le_of_ble_eq_true rfl, rfl⟩ ?_
    refine wp.mono H ?_
    rintro v w1 ⟨F3, h4, rfl, rfl, r5, H⟩
    show wp 7 14 (13, [some (vr 37), some (vr p1)], [], (Wd S L F3 G h4)) _
    obtain ⟨g6, H⟩ := H
    obtain ⟨q7, g8, t9, H⟩ := H
    refine pt14 (s' := (23, [some (vr 37), some (vr p1)], [vr p1, vr q7], (Wd S L F3 G h4))) (by decide) [0, 38, 0, 0, q7, 0] rfl ⟨⟨⟨trivial, ⟨Nat.le_of_ble_eq_true rfl, rfl, r5 _ _ _ rfl⟩⟩, ⟨Nat.le_of_ble_eq_true rfl, rfl⟩⟩, ⟨Nat.le_of_ble_eq_true rfl, Or.inr (Or.inl rfl), g6, g8⟩⟩ ?_
    refine wp.cl am_m14 rfl am_m24 6 [vr q7, vr p1] [] rfl (Nat.le_of_ble_eq_true rfl) ⟨(Nat.le_of_ble_eq_true rfl), (Nat.le_of_ble_eq_true rfl)⟩ rfl (Nat.le_of_ble_eq_true rfl) rfl (Nat.le_of_ble_eq_true rfl) (Nat.le_of_ble_eq_true rfl) ⟨_, _, rfl, (YTP.o t9).1, (YTP.o t9).2⟩ ?_
    refine wp.mono H ?_
    rintro v w1 ⟨F10, rfl, rfl, H⟩
    show wp 7 14 (26, [some (vr 37), some (vr p1)], [], (Wd S L F10 G h4)) _
    refine pt14 (s' := (36, [some (vr 37), some (vr p1)], [], (Wd S L (am_up F10 37 1 ((F10 37 1) + 1)) G h4))) (by decide) [0, 0, 0, 0, 0, 0] rfl ⟨⟨trivial, ⟨Nat.le_of_ble_eq_true rfl, rfl⟩⟩, ⟨Nat.le_of_ble_eq_true rfl, rfl, fun h => by cases h⟩⟩ ?_
    exact wp.fin (v := none) (by decide) am_m14 rfl ⟨rfl, rfl, rfl⟩ H
  · rw [if_neg c2] at H
    obtain ⟨g11, H⟩ := H
    obtain ⟨q12, g13, t14, H⟩ := H
    refine pt14 (s' := (23, [some (vr 37), some (vr p1)], [vr p1, vr q12], (Wd S L F G h))) (by decide) [1, 0, 38, 0, 0, q12, 0] rfl ⟨⟨⟨⟨trivial, ⟨⟨g1, (by decide : R32 6)⟩, c2⟩⟩, ⟨Nat.le_of_ble_eq_true rfl, rfl, hh _ _ _ rfl⟩⟩, ⟨Nat.le_of_ble_eq_true rfl, rfl⟩⟩, ⟨Nat.le_of_ble_eq_true rfl, Or.inr (Or.inl rfl), g11, g13⟩⟩ ?_
    refine wp.cl am_m14 rfl am_m24 6 [vr q12, vr p1] [] rfl (Nat.le_of_ble_eq_true rfl) ⟨(Nat.le_of_ble_eq_true rfl), (Nat.le_of_ble_eq_true rfl)⟩ rfl (Nat.le_of_ble_eq_true rfl) rfl (Nat.le_of_ble_eq_true rfl) (Nat.le_of_ble_eq_true rfl) ⟨_, _, rfl, (YTP.o t14).1, (YTP.o t14).2⟩ ?_
    refine wp.mono H ?_
    rintro v w1 ⟨F15, rfl, rfl, H⟩
    show wp 7 14 (26, [some (vr 37), some (vr p1)], [], (Wd S L F15 G h)) _
    refine pt14 (s' := (36, [some (vr 37), some (vr p1)], [], (Wd S L (am_up F15 37 1 ((F15 37 1) + 1)) G h))) (by decide) [0, 0, 0, 0, 0, 0] rfl ⟨⟨trivial, ⟨Nat.le_of_ble_eq_true rfl, rfl⟩⟩, ⟨Nat.le_of_ble_eq_true rfl, rfl, fun h => by cases h⟩⟩ ?_
    exact wp.fin (v := none) (by decide) am_m14 rfl ⟨rfl, rfl, rfl⟩ H
set_option maxRecDepth 100000 in
set_option maxHeartbeats 4000000 in
theorem T15_0 {S L : Nat} {F G : Nat → Nat → Int} {h : Nat → Nat → Option Nat} (hh : RfH h)   {Q : Option V2 → W2 → Prop}
    (H : (∃ q1 : Nat, h 38 0 = some q1 ∧ YTP q1 ∧
 C15_9 q1 1 (Wd S L F G h) Q)) : C15_0  (Wd S L F G h) Q := by
  obtain ⟨q1, g2, t3, H⟩ := H
  refine pt15 (s' := (9, [some (vr 37), some (vr q1), some (vi 1)], [], (Wd S L F G h))) (by decide) [0, 38, 0, q1, 0, 0, 0] rfl ⟨⟨trivial, ⟨Nat.le_of_ble_eq_true rfl, rfl, hh _ _ _ rfl⟩⟩, ⟨Nat.le_of_ble_eq_true rfl, Or.inr (Or.inl rfl), (by decide : (0 : Int) ≤ 0 ∧ (0 : Int) < 6), g2⟩⟩ ?_
  exact wp.weak (a := [some (vr 37), some (vr q1), some (vi 1)]) ⟨rfl, rfl, rfl, trivial⟩ H
set_option maxRecDepth 100000 in
set_option maxHeartbeats 4000000 in
theorem T15_9 {S L : Nat} {F G : Nat → Nat → Int} {h : Nat → Nat → Option Nat} (hh : RfH h) {p1 : Nat} {x2 : Int} (tp1 : YTP p1) {Q : Option V2 → W2 → Prop}
    (H : (R32 x2 ∧
 (if 6 ≤ x2 then
  Q (none) (Wd S L (am_up F 37 1 5) G (am_up h 38 5 (some p1)))
 else
  ((0 ≤ x2 ∧ x2 < 6) ∧
  ∃ q4 : Nat, h 38 x2.toNat = some q4 ∧ YTP q4 ∧
  (0 ≤ (x2 - 1) ∧ (x2 - 1) < 6) ∧
  C15_9 p1 (x2 + 1) (Wd S L F G (am_up h 38 (x2 - 1).toNat (some q4))) Q)))) : C15_9 p1 x2 (Wd S L F G h) Q := by
  obtain ⟨g1, H⟩ := H
  refine pt15 (s' := (12, [some (vr 37), some (vr p1), some (vi x2)], [vi 6, vi x2], (Wd S L F G h))) (by decide) [0, 0] rfl trivial ?_
  by_cases c2 : 6 ≤ x2
  · rw [if_pos c2] at H
    refine pt15 (s' := (47, [some (vr 37), some (vr p1), some (vi x2)], [], (Wd S L (am_up F 37 1 5) G (am_up h 38 5 (some p1))))) (by decide) [1, 0, 38, 0, 0, 0, 0, 0, 0] rfl ⟨⟨⟨⟨trivial, ⟨⟨g1, (by decide : R32 6)⟩, c2⟩⟩, ⟨Nat.le_of_ble_eq_true rfl, rfl, hh _ _ _ rfl⟩⟩, ⟨Nat.le_of_ble_eq_true rfl, (YTP.o tp1).1, Or.inl ⟨rfl, (YTP.o tp1).2⟩, (by decide : (0 : Int) ≤ 5 ∧ (5 : Int) < 6)⟩⟩, ⟨Nat.le_of_ble_eq_true rfl, rfl, fun h => by cases h⟩⟩ ?_
    exact wp.fin (v := none) (by decide) am_m15 rfl ⟨rfl, rfl, rfl⟩ H
  · rw [if_neg c2] at H
    obtain ⟨g3, H⟩ := H
    obtain ⟨q4, g5, t6, H⟩ := H
    obtain ⟨g7, H⟩ := H
    refine pt15 (s' := (9, [some (vr 37), some (vr p1), some (vi (x2 + 1))], [], (Wd S L F G (am_up h 38 (x2 - 1).toNat (some q4))))) (by decide) [0, 0, 38, 0, 0, 0, 0, 38, 0, q4, 0, 0, 0] rfl ⟨⟨⟨⟨⟨trivial, ⟨⟨g1, (by decide : R32 6)⟩, c2⟩⟩, ⟨Nat.le_of_ble_eq_true rfl, rfl, hh _ _ _ rfl⟩⟩, ⟨Nat.le_of_ble_eq_true rfl, rfl, hh _ _ _ rfl⟩⟩, ⟨Nat.le_of_ble_eq_true rfl, Or.inr (Or.inl rfl), g3, g5⟩⟩, ⟨Nat.le_of_ble_eq_true rfl, (YTP.o t6).1, Or.inl ⟨rfl, (YTP.o t6).2⟩, g7⟩⟩ ?_
    exact wp.weak (a := [some (vr 37), some (vr p1), some (vi (x2 + 1))]) ⟨rfl, rfl, rfl, trivial⟩ H
set_option maxRecDepth 100000 in
set_option maxHeartbeats 4000000 in
theorem T16_0 {S L : Nat} {F G : Nat → Nat → Int} {h : Nat → Nat → Option Nat} (hh : RfH h)   {Q : Option V2 → W2 → Prop}
    (H : (R32 (F 37 1) ∧
 (if (F 37 1) ≤ 0 then
  Q (none) (Wd S L F G h)
 else
  ((0 ≤ ((F 37 1) - 1) ∧ ((F 37 1) - 1) < 6) ∧
  ∃ q4 : Nat, h 38 ((F 37 1) - 1).toNat = some q4 ∧ YTP q4 ∧
  C24_0 1 q4 (Wd S L (am_up F 37 1 ((F 37 1) - 1)) G h) (fun v w1 => ∃ (F7 : Nat → Nat → Int), v = none ∧ w1 = (Wd S L F7 G h) ∧
   Q (none) (Wd S L F7 G h)))))) : C16_0  (Wd S L F G h) Q := by
  obtain ⟨g1, H⟩ := H
  refine pt16 (s' := (4, [some (vr 37), some (vr 1)], [vi (F 37 1)], (Wd S L F G h))) (by decide) [0, 0] rfl ⟨trivial, ⟨Nat.le_of_ble_eq_true rfl, rfl⟩⟩ ?_
  by_cases c2 : (F 37 1) ≤ 0
  · rw [if_pos c2] at H
    refine pt16 (s' := (30, [some (vr 37), some (vr 1)], [], (Wd S L F G h))) (by decide) [1] rfl ⟨trivial, ⟨g1, c2⟩⟩ ?_
    exact wp.fin (v := none) (by decide) am_m16 rfl ⟨rfl, rfl, rfl⟩ H
  · rw [if_neg c2] at H
    obtain ⟨g3, H⟩ := H
    obtain ⟨q4, g5, t6, H⟩ := H
    refine pt16 (s' := (27, [some (vr 37), some (vr 1)], [vr q4, vr 1], (Wd S L (am_up F 37 1 ((F 37 1) - 1)) G h))) (by decide) [0, 0, 0, 0, 0, 0, 0, 0, 0, 38, 0, 0, q4] rfl ⟨⟨⟨⟨⟨⟨trivial, ⟨g1, c2⟩⟩, ⟨Nat.le_of_ble_eq_true rfl, rfl⟩⟩, ⟨Nat.le_of_ble_eq_true rfl, rfl, fun h => by cases h⟩⟩, ⟨Nat.le_of_ble_eq_true rfl, rfl, hh _ _ _ rfl⟩⟩, ⟨Nat.le_of_ble_eq_true rfl, rfl⟩⟩, ⟨Nat.le_of_ble_eq_true rfl, Or.inr (Or.inl rfl), g3, g5⟩⟩ ?_
    refine wp.cl am_m16 rfl am_m24 6 [vr 1, vr q4] [] rfl (Nat.le_of_ble_eq_true rfl) ⟨(Nat.le_of_ble_eq_true rfl), (Nat.le_of_ble_eq_true rfl)⟩ rfl (Nat.le_of_ble_eq_true rfl) rfl (Nat.le_of_ble_eq_true rfl) (Nat.le_of_ble_eq_true rfl) ⟨_, _, rfl, Nat.le_of_ble_eq_true rfl, rfl⟩ ?_
    refine wp.mono H ?_
    rintro v w1 ⟨F7, rfl, rfl, H⟩
    show wp 7 16 (30, [some (vr 37), some (vr 1)], [], (Wd S L F7 G h)) _
    exact wp.fin (v := none) (by decide) am_m16 rfl ⟨rfl, rfl, rfl⟩ H
set_option maxRecDepth 100000 in
set_option maxHeartbeats 4000000 in
theorem T17_0 {S L : Nat} {F G : Nat → Nat → Int} {h : Nat → Nat → Option Nat} (hh : RfH h)   {Q : Option V2 → W2 → Prop}
    (H : C17_2 0 (Wd S L F G h) Q) : C17_0  (Wd S L F G h) Q := by
  refine pt17 (s' := (2, [some (vr 37), some (vr 165), some (vi 0)], [], (Wd S L F G h))) (by decide) [0, 0] rfl trivial ?_
  exact wp.weak (a := [some (vr 37), some (vr 165), some (vi 0)]) ⟨rfl, rfl, rfl, trivial⟩ H
set_option maxRecDepth 100000 in
set_option maxHeartbeats 4000000 in
theorem T17_2 {S L : Nat} {F G : Nat → Nat → Int} {h : Nat → Nat → Option Nat} (hh : RfH h) {x2 : Int}  {Q : Option V2 → W2 → Prop}
    (H : (R32 x2 ∧
 R32 (F 165 1) ∧
 (if (F 165 1) ≤ x2 then
  Q (none) (Wd S L (am_up F 37 1 (F 165 1)) G h)
 else
  ((0 ≤ x2 ∧ x2 < 6) ∧
  ∃ q5 : Nat, h 38 x2.toNat = some q5 ∧ YTP q5 ∧
  ∃ q8 : Nat, h 166 x2.toNat = some q8 ∧ YTP q8 ∧
  C24_0 q5 q8 (Wd S L F G h) (fun v w1 => ∃ (F11 : Nat → Nat → Int), v = none ∧ w1 = (Wd S L F11 G h) ∧
   C17_2 (x2 + 1) (Wd S L F11 G h) Q))))) : C17_2 x2 (Wd S L F G h) Q := by
  obtain ⟨g1, H⟩ := H
  obtain ⟨g2, H⟩ := H
  refine pt17 (s' := (7, [some (vr 37), some (vr 165), some (vi x2)], [vi (F 165 1), vi x2], (Wd S L F G h))) (by decide) [0, 0, 0] rfl ⟨trivial, ⟨Nat.le_of_ble_eq_true rfl, rfl⟩⟩ ?_
  by_cases c3 : (F 165 1) ≤ x2
  · rw [if_pos c3] at H
    refine pt17 (s' := (39, [some (vr 37), some (vr 165), some (vi x2)], [], (Wd S L (am_up F 37 1 (F 165 1)) G h))) (by decide) [1, 0, 0, 0, 0] rfl ⟨⟨⟨trivial, ⟨⟨g1, g2⟩, c3⟩⟩, ⟨Nat.le_of_ble_eq_true rfl, rfl⟩⟩, ⟨Nat.le_of_ble_eq_true rfl, rfl, fun h => by cases h⟩⟩ ?_
    exact wp.fin (v := none) (by decide) am_m17 rfl ⟨rfl, rfl, rfl⟩ H
  · rw [if_neg c3] at H
    obtain ⟨g4, H⟩ := H
    obtain ⟨q5, g6, t7, H⟩ := H
    obtain ⟨q8, g9, t10, H⟩ := H
    refine pt17 (s' := (22, [some (vr 37), some (vr 165), some (vi x2)], [vr q8, vr q5], (Wd S L F G h))) (by decide) [0, 0, 38, 0, q5, 0, 166, 0, q8] rfl ⟨⟨⟨⟨⟨trivial, ⟨⟨g1, g2⟩, c3⟩⟩, ⟨Nat.le_of_ble_eq_true rfl, rfl, hh _ _ _ rfl⟩⟩, ⟨Nat.le_of_ble_eq_true rfl, Or.inr (Or.inl rfl), g4, g6⟩⟩, ⟨Nat.le_of_ble_eq_true rfl, rfl, hh _ _ _ rfl⟩⟩, ⟨Nat.le_of_ble_eq_true rfl, Or.inr (Or.inl rfl), g4, g9⟩⟩ ?_
    refine wp.cl am_m17 rfl am_m24 6 [vr q5, vr q8] [] rfl (Nat.le_of_ble_eq_true rfl) ⟨(Nat.le_of_ble_eq_true rfl), (Nat.le_of_ble_eq_true rfl)⟩ rfl (Nat.le_of_ble_eq_true rfl) rfl (Nat.le_of_ble_eq_true rfl) (Nat.le_of_ble_eq_true rfl) ⟨_, _, rfl, (YTP.o t7).1, (YTP.o t7).2⟩ ?_
    refine wp.mono H ?_
    rintro v w1 ⟨F11, rfl, rfl, H⟩
    show wp 7 17 (25, [some (vr 37), some (vr 165), some (vi x2)], [], (Wd S L F11 G h)) _
    refine pt17 (s' := (2, [some (vr 37), some (vr 165), some (vi (x2 + 1))], [], (Wd S L F11 G h))) (by decide) [0, 0] rfl trivial ?_
    exact wp.weak (a := [some (vr 37), some (vr 165), some (vi (x2 + 1))]) ⟨rfl, rfl, rfl, trivial⟩ H
set_option maxRecDepth 100000 in
set_option maxHeartbeats 4000000 in
theorem T17b_0 {S L : Nat} {F G : Nat → Nat → Int} {h : Nat → Nat → Option Nat} (hh : RfH h)   {Q : Option V2 → W2 → Prop}
    (H : C17b_2 0 (Wd S L F G h) Q) : C17b_0  (Wd S L F G h) Q := by
  refine pt17 (s' := (2, [some (vr 165), some (vr 37), some (vi 0)], [], (Wd S L F G h))) (by decide) [0, 0] rfl trivial ?_
  exact wp.weak (a := [some (vr 165), some (vr 37), some (vi 0)]) ⟨rfl, rfl, rfl, trivial⟩ H
set_option maxRecDepth 100000 in
set_option maxHeartbeats 4000000 in
theorem T17b_2 {S L : Nat} {F G : Nat → Nat → Int} {h : Nat → Nat → Option Nat} (hh : RfH h) {x2 : Int}  {Q : Option V2 → W2 → Prop}
    (H : (R32 x2 ∧
 R32 (F 37 1) ∧
 (if (F 37 1) ≤ x2 then
  Q (none) (Wd S L (am_up F 165 1 (F 37 1)) G h)
 else
  ((0 ≤ x2 ∧ x2 < 6) ∧
  ∃ q5 : Nat, h 166 x2.toNat = some q5 ∧ YTP q5 ∧
  ∃ q8 : Nat, h 38 x2.toNat = some q8 ∧ YTP q8 ∧
  C24_0 q5 q8 (Wd S L F G h) (fun v w1 => ∃ (F11 : Nat → Nat → Int), v = none ∧ w1 = (Wd S L F11 G h) ∧
   C17b_2 (x2 + 1) (Wd S L F11 G h) Q))))) : C17b_2 x2 (Wd S L F G h) Q := by
  obtain ⟨g1, H⟩ := H
  obtain ⟨g2, H⟩ := H
  refine pt17 (s' := (7, [some (vr 165), some (vr 37), some (vi x2)], [vi (F 37 1), vi x2], (Wd S L F G h))) (by decide) [0, 0, 0] rfl ⟨trivial, ⟨Nat.le_of_ble_eq_true rfl, rfl⟩⟩ ?_
  by_cases c3 : (F 37 1) ≤ x2
  · rw [if_pos c3] at H
    refine pt17 (s' := (39, [some (vr 165), some (vr 37), some (vi x2)], [], (Wd S L (am_up F 165 1 (F 37 1)) G h))) (by decide) [1, 0, 0, 0, 0] rfl ⟨⟨⟨trivial, ⟨⟨g1, g2⟩, c3⟩⟩, ⟨Nat.le_of_ble_eq_true rfl, rfl⟩⟩, ⟨Nat.le_of_ble_eq_true rfl, rfl, fun h => by cases h⟩⟩ ?_
    exact wp.fin (v := none) (by decide) am_m17 rfl ⟨rfl, rfl, rfl⟩ H
  · rw [if_neg c3] at H
    obtain ⟨g4, H⟩ := H
    obtain ⟨q5, g6, t7, H⟩ := H
    obtain ⟨q8, g9, t10, H⟩ := H
    refine pt17 (s' := (22, [some (vr 165), some (vr 37), some (vi x2)], [vr q8, vr q5], (Wd S L F G h))) (by decide) [0, 0, 166, 0, q5, 0, 38, 0, q8] rfl ⟨⟨⟨⟨⟨trivial, ⟨⟨g1, g2⟩, c3⟩⟩, ⟨Nat.le_of_ble_eq_true rfl, rfl, hh _ _ _ rfl⟩⟩, ⟨Nat.le_of_ble_eq_true rfl, Or.inr (Or.inl rfl), g4, g6⟩⟩, ⟨Nat.le_of_ble_eq_true rfl, rfl, hh _ _ _ rfl⟩⟩, ⟨Nat.le_of_ble_eq_true rfl, Or.inr (Or.inl rfl), g4, g9⟩⟩ ?_
    refine wp.cl am_m17 rfl am_m24 6 [vr q5, vr q8] [] rfl (Nat.le_of_ble_eq_true rfl) ⟨(Nat.le_of_ble_eq_true rfl), (Nat.le_of_ble_eq_true rfl)⟩ rfl (Nat.le_of_ble_eq_true rfl) rfl (Nat.le_of_ble_eq_true rfl) (Nat.le_of_ble_eq_true rfl) ⟨_, _, rfl, (YTP.o t7).1, (YTP.o t7).2⟩ ?_
    refine wp.mono H ?_
    rintro v w1 ⟨F11, rfl, rfl, H⟩
    show wp 7 17 (25, [some (vr 165), some (vr 37), some (vi x2)], [], (Wd S L F11 G h)) _
    refine pt17 (s' := (2, [some (vr 165), some (vr 37), some (vi (x2 + 1))], [], (Wd S L F11 G h))) (by decide) [0, 0] rfl trivial ?_
    exact wp.weak (a := [some (vr 165), some (vr 37), some (vi (x2 + 1))]) ⟨rfl, rfl, rfl, trivial⟩ H
set_option maxRecDepth 100000 in
set_option maxHeartbeats 4000000 in
theorem T19_0 {S L : Nat} {F G : Nat → Nat → Int} {h : Nat → Nat → Option Nat} (hh : RfH h) {p0 : Nat} {a1 : Int} {a2 : Int} (tp0 : YSP p0) {Q : Option V2 → W2 → Prop}
    (H : C19_17 p0 0 (Wd S L (am_up (am_up (am_up F p0 0 1) p0 1 a1) p0 2 a2) G h) Q) : C19_0 p0 a1 a2 (Wd S L F G h) Q := by
  refine pt19 (s' := (17, [some (vr p0), some (vi a1), some (vi a2), some (vi 0)], [], (Wd S L (am_up (am_up (am_up F p0 0 1) p0 1 a1) p0 2 a2) G h))) (by decide) [0, 0, 0, 0, 0, 0, 0, 0, 0, 0, 0] rfl ⟨⟨⟨trivial, ⟨(YSP.o tp0).1, (YSP.o tp0).2, fun _ => Or.inr rfl⟩⟩, ⟨(YSP.o tp0).1, (YSP.o tp0).2, fun h => by cases h⟩⟩, ⟨(YSP.o tp0).1, (YSP.o tp0).2, fun h => by cases h⟩⟩ ?_
  exact wp.weak (a := [some (vr p0), none, none, some (vi 0)]) ⟨rfl, rfl, trivial⟩ H
set_option maxRecDepth 100000 in
set_option maxHeartbeats 4000000 in
theorem T19_17 {S L : Nat} {F G : Nat → Nat → Int} {h : Nat → Nat → Option Nat} (hh : RfH h) {p0 : Nat} {x3 : Int} (tp0 : YSP p0) {Q : Option V2 → W2 → Prop}
    (H : (R32 x3 ∧
 (if 24 ≤ x3 then
  Q (none) (Wd S L F G h)
 else
  ((0 ≤ x3 ∧ x3 < 24) ∧
  C19_17 p0 (x3 + 1) (Wd S L F (am_up G (p0 + 1) x3.toNat 0) h) Q)))) : C19_17 p0 x3 (Wd S L F G h) Q := by
  obtain ⟨g1, H⟩ := H
  refine pt19 (s' := (20, [some (vr p0), none, none, some (vi x3)], [vi 24, vi x3], (Wd S L F G h))) (by decide) [0, 0] rfl trivial ?_
  by_cases c2 : 24 ≤ x3
  · rw [if_pos c2] at H
    refine pt19 (s' := (36, [some (vr p0), none, none, some (vi x3)], [], (Wd S L F G h))) (by decide) [1] rfl ⟨trivial, ⟨⟨g1, (by decide : R32 24)⟩, c2⟩⟩ ?_
    exact wp.fin (v := none) (by decide) am_m19 rfl ⟨rfl, rfl, rfl⟩ H
  · rw [if_neg c2] at H
    obtain ⟨g3, H⟩ := H
    refine pt19 (s' := (17, [some (vr p0), none, none, some (vi (x3 + 1))], [], (Wd S L F (am_up G (p0 + 1) x3.toNat 0) h))) (by decide) [0, 0, (p0 + 1), 0, 0, 0, 0, 0] rfl ⟨⟨⟨trivial, ⟨⟨g1, (by decide : R32 24)⟩, c2⟩⟩, (YSP.g hh tp0)⟩, (ix (YSP.a tp0) g3)⟩ ?_
    exact wp.weak (a := [some (vr p0), none, none, some (vi (x3 + 1))]) ⟨rfl, rfl, trivial⟩ H
set_option maxRecDepth 100000 in
set_option maxHeartbeats 4000000 in
theorem T20_0 {S L : Nat} {F G : Nat → Nat → Int} {h : Nat → Nat → Option Nat} (hh : RfH h) {p0 : Nat} {a1 : Int} {a2 : Int} (tp0 : YSP p0) {Q : Option V2 → W2 → Prop}
    (H : (R32 a1 ∧
 (if a1 < 0 then
  Q (some (vi 0)) (Wd S L F G h)
 else
  (R32 a2 ∧
  (if a2 < 0 then
   Q (some (vi 0)) (Wd S L F G h)
  else
   (R32 (F p0 2) ∧
   (if (F p0 2) < a1 then
    Q (some (vi 0)) (Wd S L F G h)
   else
    (R32 ((F p0 2) - a1) ∧
    (if ((F p0 2) - a1) < a2 then
     Q (some (vi 0)) (Wd S L F G h)
    else
     Q (some (vi 1)) (Wd S L F G h)))))))))) : C20_0 p0 a1 a2 (Wd S L F G h) Q := by
  obtain ⟨g1, H⟩ := H
  refine pt20 (s' := (1, [some (vr p0), some (vi a1), some (vi a2)], [vi a1], (Wd S L F G h))) (by decide) [0] rfl trivial ?_
  by_cases c2 : a1 < 0
  · rw [if_pos c2] at H
    refine pt20 (s' := (31, [some (vr p0), some (vi a1), some (vi a2)], [vi 0], (Wd S L F G h))) (by decide) [1, 0] rfl ⟨trivial, ⟨g1, c2⟩⟩ ?_
    exact wp.fin (v := some (vi 0)) (by decide) am_m20 rfl ⟨_, rfl, Or.inr ⟨rfl, Or.inl rfl⟩, rfl⟩ H
  · rw [if_neg c2] at H
    obtain ⟨g3, H⟩ := H
    refine pt20 (s' := (5, [some (vr p0), some (vi a1), some (vi a2)], [vi a2], (Wd S L F G h))) (by decide) [0, 0] rfl ⟨trivial, ⟨g1, c2⟩⟩ ?_
    by_cases c4 : a2 < 0
    · rw [if_pos c4] at H
      refine pt20 (s' := (31, [some (vr p0), some (vi a1), some (vi a2)], [vi 0], (Wd S L F G h))) (by decide) [1, 0] rfl ⟨trivial, ⟨g3, c4⟩⟩ ?_
      exact wp.fin (v := some (vi 0)) (by decide) am_m20 rfl ⟨_, rfl, Or.inr ⟨rfl, Or.inl rfl⟩, rfl⟩ H
    · rw [if_neg c4] at H
      obtain ⟨g5, H⟩ := H
      refine pt20 (s' := (13, [some (vr p0), some (vi a1), some (vi a2)], [vi (F p0 2), vi a1], (Wd S L F G h))) (by decide) [0, 0, 0, 0] rfl ⟨⟨trivial, ⟨g3, c4⟩⟩, ⟨(YSP.o tp0).1, (YSP.o tp0).2⟩⟩ ?_
      by_cases c6 : (F p0 2) < a1
      · rw [if_pos c6] at H
        refine pt20 (s' := (31, [some (vr p0), some (vi a1), some (vi a2)], [vi 0], (Wd S L F G h))) (by decide) [1, 0] rfl ⟨trivial, ⟨⟨g1, g5⟩, c6⟩⟩ ?_
        exact wp.fin (v := some (vi 0)) (by decide) am_m20 rfl ⟨_, rfl, Or.inr ⟨rfl, Or.inl rfl⟩, rfl⟩ H
      · rw [if_neg c6] at H
        obtain ⟨g7, H⟩ := H
        refine pt20 (s' := (23, [some (vr p0), some (vi a1), some (vi a2)], [vi ((F p0 2) - a1), vi a2], (Wd S L F G h))) (by decide) [0, 0, 0, 0, 0, 0] rfl ⟨⟨trivial, ⟨⟨g1, g5⟩, c6⟩⟩, ⟨(YSP.o tp0).1, (YSP.o tp0).2⟩⟩ ?_
        by_cases c8 : ((F p0 2) - a1) < a2
        · rw [if_pos c8] at H
          refine pt20 (s' := (31, [some (vr p0), some (vi a1), some (vi a2)], [vi 0], (Wd S L F G h))) (by decide) [1, 0] rfl ⟨trivial, ⟨⟨g3, g7⟩, c8⟩⟩ ?_
          exact wp.fin (v := some (vi 0)) (by decide) am_m20 rfl ⟨_, rfl, Or.inr ⟨rfl, Or.inl rfl⟩, rfl⟩ H
        · rw [if_neg c8] at H
          refine pt20 (s' := (31, [some (vr p0), some (vi a1), some (vi a2)], [vi 1], (Wd S L F G h))) (by decide) [0, 0, 0] rfl ⟨trivial, ⟨⟨g3, g7⟩, c8⟩⟩ ?_
          exact wp.fin (v := some (vi 1)) (by decide) am_m20 rfl ⟨_, rfl, Or.inr ⟨rfl, Or.inr rfl⟩, rfl⟩ H
set_option maxRecDepth 100000 in
set_option maxHeartbeats 4000000 in
theorem T21_0 {S L : Nat} {F G : Nat → Nat → Int} {h : Nat → Nat → Option Nat} (hh : RfH h) {p0 : Nat} {a1 : Int} {a2 : Int} (tp0 : YSP p0) {Q : Option V2 → W2 → Prop}
    (H : (R32 (F p0 1) ∧
 (if (F p0 1) = 0 then
  (R32 ((Int32.ofInt ((Int64.ofInt a2).toInt32.toInt)).toInt8.toInt32.toInt) ∧
  (0 ≤ a1 ∧ a1 < 24) ∧
  Q (none) (Wd S L F (am_up G (p0 + 1) a1.toNat ((Int32.ofInt ((Int64.ofInt a2).toInt32.toInt)).toInt8.toInt32.toInt)) h))
 else
 (if (F p0 1) = 1 then
  (R32 ((Int32.ofInt ((Int64.ofInt a2).toInt32.toInt)).toInt16.toInt32.toInt) ∧
  (0 ≤ a1 ∧ a1 < 24) ∧
  Q (none) (Wd S L F (am_up G (p0 + 1) a1.toNat ((Int32.ofInt ((Int64.ofInt a2).toInt32.toInt)).toInt16.toInt32.toInt)) h))
 else
 (if (F p0 1) = 2 then
  (R32 ((Int64.ofInt a2).toInt32.toInt) ∧
  (0 ≤ a1 ∧ a1 < 24) ∧
  Q (none) (Wd S L F (am_up G (p0 + 1) a1.toNat ((Int64.ofInt a2).toInt32.toInt)) h))
 else
 ((0 ≤ a1 ∧ a1 < 24) ∧
 Q (none) (Wd S L F (am_up G (p0 + 1) a1.toNat a2) h))))))) : C21_0 p0 a1 a2 (Wd S L F G h) Q := by
  obtain ⟨g1, H⟩ := H
  refine pt21 (s' := (4, [some (vr p0), some (vi a1), some (vj a2), none], [vi (F p0 1)], (Wd S L F G h))) (by decide) [0, 0] rfl ⟨trivial, ⟨(YSP.o tp0).1, (YSP.o tp0).2⟩⟩ ?_
  by_cases c2 : (F p0 1) = 0
  · rw [if_pos c2] at H
    obtain ⟨g3, H⟩ := H
    obtain ⟨g4, H⟩ := H
    refine pt21 (s' := (77, [some (vr p0), some (vi a1), some (vj a2), none], [], (Wd S L F (am_up G (p0 + 1) a1.toNat ((Int32.ofInt ((Int64.ofInt a2).toInt32.toInt)).toInt8.toInt32.toInt)) h))) (by decide) [1, 0, (p0 + 1), 0, 0, 1, 0, 0, 0, 0] rfl ⟨⟨⟨⟨trivial, ⟨g1, (by omega : ¬ (F p0 1) < 0), (by omega : ¬ 2 < (F p0 1)), c2⟩⟩, (YSP.g hh tp0)⟩, g3⟩, (ix (YSP.a tp0) g4)⟩ ?_
    exact wp.fin (v := none) (by decide) am_m21 rfl ⟨rfl, rfl, rfl⟩ H
  · rw [if_neg c2] at H
    by_cases c5 : (F p0 1) = 1
    · rw [if_pos c5] at H
      obtain ⟨g6, H⟩ := H
      obtain ⟨g7, H⟩ := H
      refine pt21 (s' := (77, [some (vr p0), some (vi a1), some (vj a2), none], [], (Wd S L F (am_up G (p0 + 1) a1.toNat ((Int32.ofInt ((Int64.ofInt a2).toInt32.toInt)).toInt16.toInt32.toInt)) h))) (by decide) [2, 0, (p0 + 1), 0, 0, 1, 0, 0, 0, 0] rfl ⟨⟨⟨⟨trivial, ⟨g1, (by omega : ¬ (F p0 1) < 0), (by omega : ¬ 2 < (F p0 1)), c5⟩⟩, (YSP.g hh tp0)⟩, g6⟩, (ix (YSP.a tp0) g7)⟩ ?_
      exact wp.fin (v := none) (by decide) am_m21 rfl ⟨rfl, rfl, rfl⟩ H
    · rw [if_neg c5] at H
      by_cases c8 : (F p0 1) = 2
      · rw [if_pos c8] at H
        obtain ⟨g9, H⟩ := H
        obtain ⟨g10, H⟩ := H
        refine pt21 (s' := (77, [some (vr p0), some (vi a1), some (vj a2), none], [], (Wd S L F (am_up G (p0 + 1) a1.toNat ((Int64.ofInt a2).toInt32.toInt)) h))) (by decide) [3, 0, (p0 + 1), 0, 0, 1, 0, 0, 0] rfl ⟨⟨⟨⟨trivial, ⟨g1, (by omega : ¬ (F p0 1) < 0), (by omega : ¬ 2 < (F p0 1)), c8⟩⟩, (YSP.g hh tp0)⟩, g9⟩, (ix (YSP.a tp0) g10)⟩ ?_
        exact wp.fin (v := none) (by decide) am_m21 rfl ⟨rfl, rfl, rfl⟩ H
      · rw [if_neg c8] at H
        obtain ⟨g11, H⟩ := H
        refine pt21 (s' := (77, [some (vr p0), some (vi a1), some (vj a2), none], [], (Wd S L F (am_up G (p0 + 1) a1.toNat a2) h))) (by decide) [0, 0, (p0 + 1), 0, 0, 0] rfl ⟨⟨⟨trivial, ⟨g1, (by omega : (F p0 1) < 0 ∨ 2 < (F p0 1))⟩⟩, (YSP.g hh tp0)⟩, (ix (YSP.a tp0) g11)⟩ ?_
        exact wp.fin (v := none) (by decide) am_m21 rfl ⟨rfl, rfl, rfl⟩ H
set_option maxRecDepth 100000 in
set_option maxHeartbeats 4000000 in
theorem T22_0 {S L : Nat} {F G : Nat → Nat → Int} {h : Nat → Nat → Option Nat} (hh : RfH h) {p0 : Nat} {a1 : Int} {a2 : Int} (tp0 : YSP p0) {Q : Option V2 → W2 → Prop}
    (H : C22_5 p0 a1 a2 1 a1 (Wd S L F G h) Q) : C22_0 p0 a1 a2 (Wd S L F G h) Q := by
  refine pt22 (s' := (5, [some (vr p0), some (vi a1), some (vi a2), some (vi 1), some (vi a1)], [], (Wd S L F G h))) (by decide) [0, 0, 0, 0] rfl trivial ?_
  exact wp.weak (a := [some (vr p0), some (vi a1), some (vi a2), some (vi 1), some (vi a1)]) ⟨rfl, rfl, rfl, rfl, rfl, trivial⟩ H
set_option maxRecDepth 100000 in
set_option maxHeartbeats 4000000 in
theorem T22_5 {S L : Nat} {F G : Nat → Nat → Int} {h : Nat → Nat → Option Nat} (hh : RfH h) {p0 : Nat} {x1 : Int} {x2 : Int} {x3 : Int} {x4 : Int} (tp0 : YSP p0) {Q : Option V2 → W2 → Prop}
    (H : (R32 x4 ∧
 R32 (x1 + x2) ∧
 (if (x1 + x2) ≤ x4 then
  Q (some (vi x3)) (Wd S L F G h)
 else
  ((0 ≤ x4 ∧ x4 < 24) ∧
  R64 (G (p0 + 1) x4.toNat) ∧
  (if (G (p0 + 1) x4.toNat) < 0 then
   Q (some (vi (-2))) (Wd S L F G h)
  else
   (if (G (p0 + 1) x4.toNat) < 8 then
    (R32 x3 ∧
    (if x3 < 8 then
     C22_5 p0 x1 x2 ((x3 * 8) + (G (p0 + 1) x4.toNat)) (x4 + 1) (Wd S L F G h) Q
    else
     (((0 : Int) ≤ x3 ∧ x3 ≤ 2147483647) ∧
     R32 (x3 % 8) ∧
     R32 (G (p0 + 1) x4.toNat) ∧
     (if (x3 % 8) = (G (p0 + 1) x4.toNat) then
      C22_5 p0 x1 x2 x3 (x4 + 1) (Wd S L F G h) Q
     else
      C22_5 p0 x1 x2 ((x3 * 8) + (G (p0 + 1) x4.toNat)) (x4 + 1) (Wd S L F G h) Q))))
   else
    Q (some (vi (-2))) (Wd S L F G h))))))) : C22_5 p0 x1 x2 x3 x4 (Wd S L F G h) Q := by
  obtain ⟨g1, H⟩ := H
  obtain ⟨g2, H⟩ := H
  refine pt22 (s' := (10, [some (vr p0), some (vi x1), some (vi x2), some (vi x3), some (vi x4)], [vi (x1 + x2), vi x4], (Wd S L F G h))) (by decide) [0, 0, 0, 0] rfl trivial ?_
  by_cases c3 : (x1 + x2) ≤ x4
  · rw [if_pos c3] at H
    refine pt22 (s' := (62, [some (vr p0), some (vi x1), some (vi x2), some (vi x3), some (vi x4)], [vi x3], (Wd S L F G h))) (by decide) [1, 0] rfl ⟨trivial, ⟨⟨g1, g2⟩, c3⟩⟩ ?_
    exact wp.fin (v := some (vi x3)) (by decide) am_m22 rfl ⟨_, rfl, Or.inl rfl, rfl⟩ H
  · rw [if_neg c3] at H
    obtain ⟨g4, H⟩ := H
    obtain ⟨g5, H⟩ := H
    refine pt22 (s' := (22, [some (vr p0), some (vi x1), some (vi x2), some (vi x3), some (vi x4)], [vi (y_cmp (G (p0 + 1) x4.toNat) 0)], (Wd S L F G h))) (by decide) [0, 0, (p0 + 1), 0, 0, 0, 0] rfl ⟨⟨⟨⟨trivial, ⟨⟨g1, g2⟩, c3⟩⟩, (YSP.g hh tp0)⟩, (ix (YSP.a tp0) g4)⟩, (Or.inl ⟨g5, (by decide : R64 0)⟩)⟩ ?_
    by_cases c6 : (G (p0 + 1) x4.toNat) < 0
    · rw [if_pos c6] at H
      refine pt22 (s' := (41, [some (vr p0), some (vi x1), some (vi x2), some (vi x3), some (vi x4)], [vi (-2)], (Wd S L F G h))) (by decide) [1, 0] rfl ⟨trivial, ⟨y_cmp_r32, (y_cmp_lt.mpr c6)⟩⟩ ?_
      exact wp.fin (v := some (vi (-2))) (by decide) am_m22 rfl ⟨_, rfl, Or.inl rfl, rfl⟩ H
    · rw [if_neg c6] at H
      refine pt22 (s' := (36, [some (vr p0), some (vi x1), some (vi x2), some (vi x3), some (vi x4)], [vi (y_cmp (G (p0 + 1) x4.toNat) 8)], (Wd S L F G h))) (by decide) [0, 0, (p0 + 1), 0, 0, 0, 0] rfl ⟨⟨⟨⟨trivial, ⟨y_cmp_r32, (fun e => c6 (y_cmp_lt.mp e))⟩⟩, (YSP.g hh tp0)⟩, (ix (YSP.a tp0) g4)⟩, (Or.inl ⟨g5, (by decide : R64 8)⟩)⟩ ?_
      by_cases c7 : (G (p0 + 1) x4.toNat) < 8
      · rw [if_pos c7] at H
        refine pt22 (s' := (51, [some (vr p0), some (vi x1), some (vi x2), some (vi x3), some (vi x4)], [vi (G (p0 + 1) x4.toNat), vi x3], (Wd S L F G h))) (by decide) [1, 0, 0, (p0 + 1), 0, 0, 0] rfl ⟨⟨⟨trivial, ⟨y_cmp_r32, (y_cmp_lt.mpr c7)⟩⟩, (YSP.g hh tp0)⟩, (ix (YSP.a tp0) g4)⟩ ?_
        refine wp.cl am_m22 rfl am_m108 6 [vi x3, vi (G (p0 + 1) x4.toNat)] [] rfl (Nat.le_of_ble_eq_true rfl) ⟨(Nat.le_of_ble_eq_true rfl), (Nat.le_of_ble_eq_true rfl)⟩ rfl (Nat.le_of_ble_eq_true rfl) rfl (Nat.le_of_ble_eq_true rfl) (Nat.le_of_ble_eq_true rfl) trivial ?_
        obtain ⟨g8, H⟩ := H
        refine pt108 (s' := (3, [some (vi x3), some (vi (G (p0 + 1) x4.toNat)), none], [vi 8, vi x3], (Wd S L F G h))) (by decide) [0, 0] rfl trivial ?_
        by_cases c9 : x3 < 8
        · rw [if_pos c9] at H
          refine pt108 (s' := (34, [some (vi x3), some (vi (G (p0 + 1) x4.toNat)), some (vi 0)], [vi ((x3 * 8) + (G (p0 + 1) x4.toNat))], (Wd S L F G h))) (by decide) [1, 0, 0, 0, 1, 0, 0, 0, 0, 0] rfl ⟨⟨trivial, ⟨⟨g8, (by decide : R32 8)⟩, c9⟩⟩, ⟨(by decide : R32 0), (by decide : (0 : Int) = (0 : Int))⟩⟩ ?_
          refine wp.fin (v := some (vi ((x3 * 8) + (G (p0 + 1) x4.toNat)))) (by decide) am_m108 rfl ⟨_, rfl, Or.inl rfl, rfl⟩ ?_
          show wp 7 22 (54, [some (vr p0), some (vi x1), some (vi x2), some (vi x3), some (vi x4)], [vi ((x3 * 8) + (G (p0 + 1) x4.toNat))], (Wd S L F G h)) _
          refine pt22 (s' := (5, [some (vr p0), some (vi x1), some (vi x2), some (vi ((x3 * 8) + (G (p0 + 1) x4.toNat))), some (vi (x4 + 1))], [], (Wd S L F G h))) (by decide) [0, 0, 0] rfl trivial ?_
          exact wp.weak (a := [some (vr p0), some (vi x1), some (vi x2), some (vi ((x3 * 8) + (G (p0 + 1) x4.toNat))), some (vi (x4 + 1))]) ⟨rfl, rfl, rfl, rfl, rfl, trivial⟩ H
        · rw [if_neg c9] at H
          obtain ⟨g10, H⟩ := H
          obtain ⟨g11, H⟩ := H
          obtain ⟨g12, H⟩ := H
          refine pt108 (s' := (11, [some (vi x3), some (vi (G (p0 + 1) x4.toNat)), none], [vi (G (p0 + 1) x4.toNat), vi (x3 % 8)], (Wd S L F G h))) (by decide) [0, 0, 0, 0, 0] rfl ⟨⟨trivial, ⟨⟨g8, (by decide : R32 8)⟩, c9⟩⟩, ⟨g10.1, g10.2, (by decide : (0 : Int) < 8), (by decide : (8 : Int) ≤ 2147483647)⟩⟩ ?_
          by_cases c13 : (x3 % 8) = (G (p0 + 1) x4.toNat)
          · rw [if_pos c13] at H
            refine pt108 (s' := (34, [some (vi x3), some (vi (G (p0 + 1) x4.toNat)), some (vi 1)], [vi x3], (Wd S L F G h))) (by decide) [0, 0, 0, 0, 0, 0, 0, 0] rfl ⟨⟨trivial, ⟨⟨g11, g12⟩, c13⟩⟩, ⟨(by decide : R32 1), (by decide : ¬ (1 : Int) = (0 : Int))⟩⟩ ?_
            refine wp.fin (v := some (vi x3)) (by decide) am_m108 rfl ⟨_, rfl, Or.inl rfl, rfl⟩ ?_
            show wp 7 22 (54, [some (vr p0), some (vi x1), some (vi x2), some (vi x3), some (vi x4)], [vi x3], (Wd S L F G h)) _
            refine pt22 (s' := (5, [some (vr p0), some (vi x1), some (vi x2), some (vi x3), some (vi (x4 + 1))], [], (Wd S L F G h))) (by decide) [0, 0, 0] rfl trivial ?_
            exact wp.weak (a := [some (vr p0), some (vi x1), some (vi x2), some (vi x3), some (vi (x4 + 1))]) ⟨rfl, rfl, rfl, rfl, rfl, trivial⟩ H
          · rw [if_neg c13] at H
            refine pt108 (s' := (34, [some (vi x3), some (vi (G (p0 + 1) x4.toNat)), some (vi 0)], [vi ((x3 * 8) + (G (p0 + 1) x4.toNat))], (Wd S L F G h))) (by decide) [1, 0, 0, 0, 1, 0, 0, 0, 0, 0] rfl ⟨⟨trivial, ⟨⟨g11, g12⟩, c13⟩⟩, ⟨(by decide : R32 0), (by decide : (0 : Int) = (0 : Int))⟩⟩ ?_
            refine wp.fin (v := some (vi ((x3 * 8) + (G (p0 + 1) x4.toNat)))) (by decide) am_m108 rfl ⟨_, rfl, Or.inl rfl, rfl⟩ ?_
            show wp 7 22 (54, [some (vr p0), some (vi x1), some (vi x2), some (vi x3), some (vi x4)], [vi ((x3 * 8) + (G (p0 + 1) x4.toNat))], (Wd S L F G h)) _
            refine pt22 (s' := (5, [some (vr p0), some (vi x1), some (vi x2), some (vi ((x3 * 8) + (G (p0 + 1) x4.toNat))), some (vi (x4 + 1))], [], (Wd S L F G h))) (by decide) [0, 0, 0] rfl trivial ?_
            exact wp.weak (a := [some (vr p0), some (vi x1), some (vi x2), some (vi ((x3 * 8) + (G (p0 + 1) x4.toNat))), some (vi (x4 + 1))]) ⟨rfl, rfl, rfl, rfl, rfl, trivial⟩ H
      · rw [if_neg c7] at H
        refine pt22 (s' := (41, [some (vr p0), some (vi x1), some (vi x2), some (vi x3), some (vi x4)], [vi (-2)], (Wd S L F G h))) (by decide) [0, 0] rfl ⟨trivial, ⟨y_cmp_r32, (fun e => c7 (y_cmp_lt.mp e))⟩⟩ ?_
        exact wp.fin (v := some (vi (-2))) (by decide) am_m22 rfl ⟨_, rfl, Or.inl rfl, rfl⟩ H
set_option maxRecDepth 100000 in
set_option maxHeartbeats 4000000 in
theorem T24_0 {S L : Nat} {F G : Nat → Nat → Int} {h : Nat → Nat → Option Nat} (hh : RfH h) {p0 : Nat} {p1 : Nat} (tp0 : YTP p0) (tp1 : YTP p1) {Q : Option V2 → W2 → Prop}
    (H : (∀ F1 : Nat → Nat → Int, (am_row F (p0 + 1) (va_cpy (F (p1 + 1)) (F (p0 + 1)) 0 0 8)) = F1 →
 ∀ F3 : Nat → Nat → Int, (am_row F1 (p0 + 2) (va_cpy (F1 (p1 + 2)) (F1 (p0 + 2)) 0 0 8)) = F3 →
 ∀ F5 : Nat → Nat → Int, (am_row F3 (p0 + 3) (va_cpy (F3 (p1 + 3)) (F3 (p0 + 3)) 0 0 12)) = F5 →
 ∀ F7 : Nat → Nat → Int, (am_row F5 (p0 + 4) (va_cpy (F5 (p1 + 4)) (F5 (p0 + 4)) 0 0 12)) = F7 →
 ∀ F9 : Nat → Nat → Int, (am_row F7 (p0 + 5) (va_cpy (F7 (p1 + 5)) (F7 (p0 + 5)) 0 0 12)) = F9 →
 ∀ F11 : Nat → Nat → Int, (am_row F9 (p0 + 6) (va_cpy (F9 (p1 + 6)) (F9 (p0 + 6)) 0 0 12)) = F11 →
 ∀ F13 : Nat → Nat → Int, (am_row (am_up (am_up (am_up (am_up F11 p0 6 (F11 p1 6)) p0 7 ((am_up F11 p0 6 (F11 p1 6)) p1 7)) p0 8 ((am_up (am_up F11 p0 6 (F11 p1 6)) p0 7 ((am_up F11 p0 6 (F11 p1 6)) p1 7)) p1 8)) p0 9 ((am_up (am_up (am_up F11 p0 6 (F11 p1 6)) p0 7 ((am_up F11 p0 6 (F11 p1 6)) p1 7)) p0 8 ((am_up (am_up F11 p0 6 (F11 p1 6)) p0 7 ((am_up F11 p0 6 (F11 p1 6)) p1 7)) p1 8)) p1 9)) (p0 + 7) (va_cpy ((am_up (am_up (am_up (am_up F11 p0 6 (F11 p1 6)) p0 7 ((am_up F11 p0 6 (F11 p1 6)) p1 7)) p0 8 ((am_up (am_up F11 p0 6 (F11 p1 6)) p0 7 ((am_up F11 p0 6 (F11 p1 6)) p1 7)) p1 8)) p0 9 ((am_up (am_up (am_up F11 p0 6 (F11 p1 6)) p0 7 ((am_up F11 p0 6 (F11 p1 6)) p1 7)) p0 8 ((am_up (am_up F11 p0 6 (F11 p1 6)) p0 7 ((am_up F11 p0 6 (F11 p1 6)) p1 7)) p1 8)) p1 9)) (p1 + 7)) ((am_up (am_up (am_up (am_up F11 p0 6 (F11 p1 6)) p0 7 ((am_up F11 p0 6 (F11 p1 6)) p1 7)) p0 8 ((am_up (am_up F11 p0 6 (F11 p1 6)) p0 7 ((am_up F11 p0 6 (F11 p1 6)) p1 7)) p1 8)) p0 9 ((am_up (am_up (am_up F11 p0 6 (F11 p1 6)) p0 7 ((am_up F11 p0 6 (F11 p1 6)) p1 7)) p0 8 ((am_up (am_up F11 p0 6 (F11 p1 6)) p0 7 ((am_up F11 p0 6 (F11 p1 6)) p1 7)) p1 8)) p1 9)) (p0 + 7)) 0 0 8)) = F13 →
 ∀ F15 : Nat → Nat → Int, (am_row F13 (p0 + 8) (va_cpy (F13 (p1 + 8)) (F13 (p0 + 8)) 0 0 8)) = F15 →
 C24_154 p0 p1 0 (Wd S L F15 G h) Q)) : C24_0 p0 p1 (Wd S L F G h) Q := by
  refine pt24 (s' := (15, [some (vr p0), some (vr p1), none], [], (Wd S L (am_row F (p0 + 1) (va_cpy (F (p1 + 1)) (F (p0 + 1)) 0 0 8)) G h))) (by decide) [0, (p1 + 1), 0, 0, (p0 + 1), 0, 0, 0] rfl ⟨⟨⟨trivial, (YTP.g hh tp1 0 rfl)⟩, (YTP.g hh tp0 0 rfl)⟩, ⟨Nat.le_of_ble_eq_true rfl, cpq (YTP.a tp1 1 rfl rfl) (YTP.a tp0 1 rfl rfl) ⟨by decide, by decide, by decide, by decide, by decide⟩⟩⟩ ?_
  generalize e2 : (am_row F (p0 + 1) (va_cpy (F (p1 + 1)) (F (p0 + 1)) 0 0 8)) = F1
  replace H := H F1 e2
  refine pt24 (s' := (30, [some (vr p0), some (vr p1), none], [], (Wd S L (am_row F1 (p0 + 2) (va_cpy (F1 (p1 + 2)) (F1 (p0 + 2)) 0 0 8)) G h))) (by decide) [0, (p1 + 2), 0, 0, (p0 + 2), 0, 0, 0] rfl ⟨⟨⟨trivial, (YTP.g hh tp1 1 rfl)⟩, (YTP.g hh tp0 1 rfl)⟩, ⟨Nat.le_of_ble_eq_true rfl, cpq (YTP.a tp1 2 rfl rfl) (YTP.a tp0 2 rfl rfl) ⟨by decide, by decide, by decide, by decide, by decide⟩⟩⟩ ?_
  generalize e4 : (am_row F1 (p0 + 2) (va_cpy (F1 (p1 + 2)) (F1 (p0 + 2)) 0 0 8)) = F3
  replace H := H F3 e4
  refine pt24 (s' := (45, [some (vr p0), some (vr p1), none], [], (Wd S L (am_row F3 (p0 + 3) (va_cpy (F3 (p1 + 3)) (F3 (p0 + 3)) 0 0 12)) G h))) (by decide) [0, (p1 + 3), 0, 0, (p0 + 3), 0, 0, 0] rfl ⟨⟨⟨trivial, (YTP.g hh tp1 2 rfl)⟩, (YTP.g hh tp0 2 rfl)⟩, ⟨Nat.le_of_ble_eq_true rfl, cpq (YTP.a tp1 3 rfl rfl) (YTP.a tp0 3 rfl rfl) ⟨by decide, by decide, by decide, by decide, by decide⟩⟩⟩ ?_
  generalize e6 : (am_row F3 (p0 + 3) (va_cpy (F3 (p1 + 3)) (F3 (p0 + 3)) 0 0 12)) = F5
  replace H := H F5 e6
  refine pt24 (s' := (60, [some (vr p0), some (vr p1), none], [], (Wd S L (am_row F5 (p0 + 4) (va_cpy (F5 (p1 + 4)) (F5 (p0 + 4)) 0 0 12)) G h))) (by decide) [0, (p1 + 4), 0, 0, (p0 + 4), 0, 0, 0] rfl ⟨⟨⟨trivial, (YTP.g hh tp1 3 rfl)⟩, (YTP.g hh tp0 3 rfl)⟩, ⟨Nat.le_of_ble_eq_true rfl, cpq (YTP.a tp1 4 rfl rfl) (YTP.a tp0 4 rfl rfl) ⟨by decide, by decide, by decide, by decide, by decide⟩⟩⟩ ?_
  generalize e8 : (am_row F5 (p0 + 4) (va_cpy (F5 (p1 + 4)) (F5 (p0 + 4)) 0 0 12)) = F7
  replace H := H F7 e8
  refine pt24 (s' := (75, [some (vr p0), some (vr p1), none], [], (Wd S L (am_row F7 (p0 + 5) (va_cpy (F7 (p1 + 5)) (F7 (p0 + 5)) 0 0 12)) G h))) (by decide) [0, (p1 + 5), 0, 0, (p0 + 5), 0, 0, 0] rfl ⟨⟨⟨trivial, (YTP.g hh tp1 4 rfl)⟩, (YTP.g hh tp0 4 rfl)⟩, ⟨Nat.le_of_ble_eq_true rfl, cpq (YTP.a tp1 5 rfl rfl) (YTP.a tp0 5 rfl rfl) ⟨by decide, by decide, by decide, by decide, by decide⟩⟩⟩ ?_
  generalize e10 : (am_row F7 (p0 + 5) (va_cpy (F7 (p1 + 5)) (F7 (p0 + 5)) 0 0 12)) = F9
  replace H := H F9 e10
  refine pt24 (s' := (90, [some (vr p0), some (vr p1), none], [], (Wd S L (am_row F9 (p0 + 6) (va_cpy (F9 (p1 + 6)) (F9 (p0 + 6)) 0 0 12)) G h))) (by decide) [0, (p1 + 6), 0, 0, (p0 + 6), 0, 0, 0] rfl ⟨⟨⟨trivial, (YTP.g hh tp1 5 rfl)⟩, (YTP.g hh tp0 5 rfl)⟩, ⟨Nat.le_of_ble_eq_true rfl, cpq (YTP.a tp1 6 rfl rfl) (YTP.a tp0 6 rfl rfl) ⟨by decide, by decide, by decide, by decide, by decide⟩⟩⟩ ?_
  generalize e12 : (am_row F9 (p0 + 6) (va_cpy (F9 (p1 + 6)) (F9 (p0 + 6)) 0 0 12)) = F11
  replace H := H F11 e12
  refine pt24 (s' := (137, [some (vr p0), some (vr p1), none], [], (Wd S L (am_row (am_up (am_up (am_up (am_up F11 p0 6 (F11 p1 6)) p0 7 ((am_up F11 p0 6 (F11 p1 6)) p1 7)) p0 8 ((am_up (am_up F11 p0 6 (F11 p1 6)) p0 7 ((am_up F11 p0 6 (F11 p1 6)) p1 7)) p1 8)) p0 9 ((am_up (am_up (am_up F11 p0 6 (F11 p1 6)) p0 7 ((am_up F11 p0 6 (F11 p1 6)) p1 7)) p0 8 ((am_up (am_up F11 p0 6 (F11 p1 6)) p0 7 ((am_up F11 p0 6 (F11 p1 6)) p1 7)) p1 8)) p1 9)) (p0 + 7) (va_cpy ((am_up (am_up (am_up (am_up F11 p0 6 (F11 p1 6)) p0 7 ((am_up F11 p0 6 (F11 p1 6)) p1 7)) p0 8 ((am_up (am_up F11 p0 6 (F11 p1 6)) p0 7 ((am_up F11 p0 6 (F11 p1 6)) p1 7)) p1 8)) p0 9 ((am_up (am_up (am_up F11 p0 6 (F11 p1 6)) p0 7 ((am_up F11 p0 6 (F11 p1 6)) p1 7)) p0 8 ((am_up (am_up F11 p0 6 (F11 p1 6)) p0 7 ((am_up F11 p0 6 (F11 p1 6)) p1 7)) p1 8)) p1 9)) (p1 + 7)) ((am_up (am_up (am_up (am_up F11 p0 6 (F11 p1 6)) p0 7 ((am_up F11 p0 6 (F11 p1 6)) p1 7)) p0 8 ((am_up (am_up F11 p0 6 (F11 p1 6)) p0 7 ((am_up F11 p0 6 (F11 p1 6)) p1 7)) p1 8)) p0 9 ((am_up (am_up (am_up F11 p0 6 (F11 p1 6)) p0 7 ((am_up F11 p0 6 (F11 p1 6)) p1 7)) p0 8 ((am_up (am_up F11 p0 6 (F11 p1 6)) p0 7 ((am_up F11 p0 6 (F11 p1 6)) p1 7)) p1 8)) p1 9)) (p0 + 7)) 0 0 8)) G h))) (by decide) [0, 0, 0, 0, 0, 0, 0, 0, 0, 0, 0, 0, 0, 0, 0, 0, 0, (p1 + 7), 0, 0, (p0 + 7), 0, 0, 0] rfl ⟨⟨⟨⟨⟨⟨⟨⟨⟨⟨⟨trivial, ⟨(YTP.o tp1).1, (YTP.o tp1).2⟩⟩, ⟨(YTP.o tp0).1, (YTP.o tp0).2, fun h => by cases h⟩⟩, ⟨(YTP.o tp1).1, (YTP.o tp1).2⟩⟩, ⟨(YTP.o tp0).1, (YTP.o tp0).2, fun h => by cases h⟩⟩, ⟨(YTP.o tp1).1, (YTP.o tp1).2⟩⟩, ⟨(YTP.o tp0).1, (YTP.o tp0).2, fun h => by cases h⟩⟩, ⟨(YTP.o tp1).1, (YTP.o tp1).2⟩⟩, ⟨(YTP.o tp0).1, (YTP.o tp0).2, fun h => by cases h⟩⟩, (YTP.g hh tp1 10 rfl)⟩, (YTP.g hh tp0 10 rfl)⟩, ⟨Nat.le_of_ble_eq_true rfl, cpq (YTP.a tp1 7 rfl rfl) (YTP.a tp0 7 rfl rfl) ⟨by decide, by decide, by decide, by decide, by decide⟩⟩⟩ ?_
  generalize e14 : (am_row (am_up (am_up (am_up (am_up F11 p0 6 (F11 p1 6)) p0 7 ((am_up F11 p0 6 (F11 p1 6)) p1 7)) p0 8 ((am_up (am_up F11 p0 6 (F11 p1 6)) p0 7 ((am_up F11 p0 6 (F11 p1 6)) p1 7)) p1 8)) p0 9 ((am_up (am_up (am_up F11 p0 6 (F11 p1 6)) p0 7 ((am_up F11 p0 6 (F11 p1 6)) p1 7)) p0 8 ((am_up (am_up F11 p0 6 (F11 p1 6)) p0 7 ((am_up F11 p0 6 (F11 p1 6)) p1 7)) p1 8)) p1 9)) (p0 + 7) (va_cpy ((am_up (am_up (am_up (am_up F11 p0 6 (F11 p1 6)) p0 7 ((am_up F11 p0 6 (F11 p1 6)) p1 7)) p0 8 ((am_up (am_up F11 p0 6 (F11 p1 6)) p0 7 ((am_up F11 p0 6 (F11 p1 6)) p1 7)) p1 8)) p0 9 ((am_up (am_up (am_up F11 p0 6 (F11 p1 6)) p0 7 ((am_up F11 p0 6 (F11 p1 6)) p1 7)) p0 8 ((am_up (am_up F11 p0 6 (F11 p1 6)) p0 7 ((am_up F11 p0 6 (F11 p1 6)) p1 7)) p1 8)) p1 9)) (p1 + 7)) ((am_up (am_up (am_up (am_up F11 p0 6 (F11 p1 6)) p0 7 ((am_up F11 p0 6 (F11 p1 6)) p1 7)) p0 8 ((am_up (am_up F11 p0 6 (F11 p1 6)) p0 7 ((am_up F11 p0 6 (F11 p1 6)) p1 7)) p1 8)) p0 9 ((am_up (am_up (am_up F11 p0 6 (F11 p1 6)) p0 7 ((am_up F11 p0 6 (F11 p1 6)) p1 7)) p0 8 ((am_up (am_up F11 p0 6 (F11 p1 6)) p0 7 ((am_up F11 p0 6 (F11 p1 6)) p1 7)) p1 8)) p1 9)) (p0 + 7)) 0 0 8)) = F13
  replace H := H F13 e14
  refine pt24 (s' := (152, [some (vr p0), some (vr p1), none], [], (Wd S L (am_row F13 (p0 + 8) (va_cpy (F13 (p1 + 8)) (F13 (p0 + 8)) 0 0 8)) G h))) (by decide) [0, (p1 + 8), 0, 0, (p0 + 8), 0, 0, 0] rfl ⟨⟨⟨trivial, (YTP.g hh tp1 11 rfl)⟩, (YTP.g hh tp0 11 rfl)⟩, ⟨Nat.le_of_ble_eq_true rfl, cpq (YTP.a tp1 8 rfl rfl) (YTP.a tp0 8 rfl rfl) ⟨by decide, by decide, by decide, by decide, by decide⟩⟩⟩ ?_
  generalize e16 : (am_row F13 (p0 + 8) (va_cpy (F13 (p1 + 8)) (F13 (p0 + 8)) 0 0 8)) = F15
  replace H := H F15 e16
  refine pt24 (s' := (154, [some (vr p0), some (vr p1), some (vi 0)], [], (Wd S L F15 G h))) (by decide) [0, 0] rfl trivial ?_
  exact wp.weak (a := [some (vr p0), some (vr p1), some (vi 0)]) ⟨rfl, rfl, rfl, trivial⟩ H
set_option maxRecDepth 100000 in
set_option maxHeartbeats 4000000 in
theorem T24_154 {S L : Nat} {F G : Nat → Nat → Int} {h : Nat → Nat → Option Nat} (hh : RfH h) {p0 : Nat} {p1 : Nat} {x2 : Int} (tp0 : YTP p0) (tp1 : YTP p1) {Q : Option V2 → W2 → Prop}
    (H : (R32 x2 ∧
 (if 8 ≤ x2 then
  Q (none) (Wd S L (am_up (am_up F p0 13 (F p1 13)) p0 14 ((am_up F p0 13 (F p1 13)) p1 14)) G h)
 else
  ((0 ≤ x2 ∧ x2 < 8) ∧
  ∀ F4 : Nat → Nat → Int, (am_row F (p0 + 10 + x2.toNat) (va_cpy (F (p1 + 10 + x2.toNat)) (F (p0 + 10 + x2.toNat)) 0 0 6)) = F4 →
  C24_154 p0 p1 (x2 + 1) (Wd S L F4 G h) Q)))) : C24_154 p0 p1 x2 (Wd S L F G h) Q := by
  obtain ⟨g1, H⟩ := H
  refine pt24 (s' := (157, [some (vr p0), some (vr p1), some (vi x2)], [vi 8, vi x2], (Wd S L F G h))) (by decide) [0, 0] rfl trivial ?_
  by_cases c2 : 8 ≤ x2
  · rw [if_pos c2] at H
    refine pt24 (s' := (201, [some (vr p0), some (vr p1), some (vi x2)], [], (Wd S L (am_up (am_up F p0 13 (F p1 13)) p0 14 ((am_up F p0 13 (F p1 13)) p1 14)) G h))) (by decide) [1, 0, 0, 0, 0, 0, 0, 0, 0] rfl ⟨⟨⟨⟨⟨trivial, ⟨⟨g1, (by decide : R32 8)⟩, c2⟩⟩, ⟨(YTP.o tp1).1, (YTP.o tp1).2⟩⟩, ⟨(YTP.o tp0).1, (YTP.o tp0).2, fun h => by cases h⟩⟩, ⟨(YTP.o tp1).1, (YTP.o tp1).2⟩⟩, ⟨(YTP.o tp0).1, (YTP.o tp0).2, fun h => by cases h⟩⟩ ?_
    exact wp.fin (v := none) (by decide) am_m24 rfl ⟨rfl, rfl, rfl⟩ H
  · rw [if_neg c2] at H
    obtain ⟨g3, H⟩ := H
    refine pt24 (s' := (179, [some (vr p0), some (vr p1), some (vi x2)], [], (Wd S L (am_row F (p0 + 10 + x2.toNat) (va_cpy (F (p1 + 10 + x2.toNat)) (F (p0 + 10 + x2.toNat)) 0 0 6)) G h))) (by decide) [0, 0, (p1 + 9), 0, (p1 + 10 + x2.toNat), 0, 0, (p0 + 9), 0, (p0 + 10 + x2.toNat), 0, 0, 0] rfl ⟨⟨⟨⟨⟨⟨trivial, ⟨⟨g1, (by decide : R32 8)⟩, c2⟩⟩, (YTP.g hh tp1 12 rfl)⟩, (hh_letT hh tp1 g3)⟩, (YTP.g hh tp0 12 rfl)⟩, (hh_letT hh tp0 g3)⟩, ⟨Nat.le_of_ble_eq_true rfl, cpq (YLP.ofT tp1 g3) (YLP.ofT tp0 g3) ⟨by decide, by decide, by decide, by decide, by decide⟩⟩⟩ ?_
    generalize e5 : (am_row F (p0 + 10 + x2.toNat) (va_cpy (F (p1 + 10 + x2.toNat)) (F (p0 + 10 + x2.toNat)) 0 0 6)) = F4
    replace H := H F4 e5
    refine pt24 (s' := (154, [some (vr p0), some (vr p1), some (vi (x2 + 1))], [], (Wd S L F4 G h))) (by decide) [0, 0] rfl trivial ?_
    exact wp.weak (a := [some (vr p0), some (vr p1), some (vi (x2 + 1))]) ⟨rfl, rfl, rfl, trivial⟩ H
set_option maxRecDepth 100000 in
set_option maxHeartbeats 4000000 in
theorem T25_0 {S L : Nat} {F G : Nat → Nat → Int} {h : Nat → Nat → Option Nat} (hh : RfH h) {a1 : Int} {a2 : Int}  {Q : Option V2 → W2 → Prop}
    (H : (R32 a2 ∧
 (if a2 = 0 then
  ((0 ≤ a1 ∧ a1 < 12) ∧
  (0 ≤ (F 4 a1.toNat) ∧ (F 4 a1.toNat) < 8) ∧
  Q (some (vi (F 2 (F 4 a1.toNat).toNat))) (Wd S L F G h))
 else
  ((0 ≤ a1 ∧ a1 < 12) ∧
  (0 ≤ (F 4 a1.toNat) ∧ (F 4 a1.toNat) < 8) ∧
  Q (some (vi (F 3 (F 4 a1.toNat).toNat))) (Wd S L F G h))))) : C25_0 a1 a2 (Wd S L F G h) Q := by
  obtain ⟨g1, H⟩ := H
  refine pt25 (s' := (1, [some (vr 1), some (vi a1), some (vi a2)], [vi a2], (Wd S L F G h))) (by decide) [0] rfl trivial ?_
  by_cases c2 : a2 = 0
  · rw [if_pos c2] at H
    obtain ⟨g3, H⟩ := H
    obtain ⟨g4, H⟩ := H
    refine pt25 (s' := (29, [some (vr 1), some (vi a1), some (vi a2)], [vi (F 2 (F 4 a1.toNat).toNat)], (Wd S L F G h))) (by decide) [0, 0, 2, 0, 4, 0, 0, 0, 0] rfl ⟨⟨⟨⟨⟨trivial, ⟨g1, c2⟩⟩, ⟨Nat.le_of_ble_eq_true rfl, rfl, hh _ _ _ rfl⟩⟩, ⟨Nat.le_of_ble_eq_true rfl, rfl, hh _ _ _ rfl⟩⟩, (ix ⟨Nat.le_of_ble_eq_true rfl, rfl⟩ g3)⟩, (ix ⟨Nat.le_of_ble_eq_true rfl, rfl⟩ g4)⟩ ?_
    exact wp.fin (v := some (vi (F 2 (F 4 a1.toNat).toNat))) (by decide) am_m25 rfl ⟨_, rfl, Or.inl rfl, rfl⟩ H
  · rw [if_neg c2] at H
    obtain ⟨g5, H⟩ := H
    obtain ⟨g6, H⟩ := H
    refine pt25 (s' := (29, [some (vr 1), some (vi a1), some (vi a2)], [vi (F 3 (F 4 a1.toNat).toNat)], (Wd S L F G h))) (by decide) [1, 0, 3, 0, 4, 0, 0, 0] rfl ⟨⟨⟨⟨⟨trivial, ⟨g1, c2⟩⟩, ⟨Nat.le_of_ble_eq_true rfl, rfl, hh _ _ _ rfl⟩⟩, ⟨Nat.le_of_ble_eq_true rfl, rfl, hh _ _ _ rfl⟩⟩, (ix ⟨Nat.le_of_ble_eq_true rfl, rfl⟩ g5)⟩, (ix ⟨Nat.le_of_ble_eq_true rfl, rfl⟩ g6)⟩ ?_
    exact wp.fin (v := some (vi (F 3 (F 4 a1.toNat).toNat))) (by decide) am_m25 rfl ⟨_, rfl, Or.inl rfl, rfl⟩ H
set_option maxRecDepth 100000 in
set_option maxHeartbeats 4000000 in
theorem T27_0 {S L : Nat} {F G : Nat → Nat → Int} {h : Nat → Nat → Option Nat} (hh : RfH h) {a1 : Int}  {Q : Option V2 → W2 → Prop}
    (H : C27_4 a1 0 0 (Wd S L F G h) Q) : C27_0 a1 (Wd S L F G h) Q := by
  refine pt27 (s' := (4, [some (vr 1), some (vi a1), some (vi 0), some (vi 0)], [], (Wd S L F G h))) (by decide) [0, 0, 0, 0] rfl trivial ?_
  exact wp.weak (a := [some (vr 1), some (vi a1), some (vi 0), some (vi 0)]) ⟨rfl, rfl, rfl, rfl, trivial⟩ H
set_option maxRecDepth 100000 in
set_option maxHeartbeats 4000000 in
theorem T27_4 {S L : Nat} {F G : Nat → Nat → Int} {h : Nat → Nat → Option Nat} (hh : RfH h) {x1 : Int} {x2 : Int} {x3 : Int}  {Q : Option V2 → W2 → Prop}
    (H : (R32 x3 ∧
 R32 x1 ∧
 (if x1 ≤ x3 then
  Q (some (vi x2)) (Wd S L F G h)
 else
  ((0 ≤ x3 ∧ x3 < 12) ∧
  C27_4 x1 (x2 + (F 7 x3.toNat)) (x3 + 1) (Wd S L F G h) Q)))) : C27_4 x1 x2 x3 (Wd S L F G h) Q := by
  obtain ⟨g1, H⟩ := H
  obtain ⟨g2, H⟩ := H
  refine pt27 (s' := (6, [some (vr 1), some (vi x1), some (vi x2), some (vi x3)], [vi x1, vi x3], (Wd S L F G h))) (by decide) [0, 0] rfl trivial ?_
  by_cases c3 : x1 ≤ x3
  · rw [if_pos c3] at H
    refine pt27 (s' := (25, [some (vr 1), some (vi x1), some (vi x2), some (vi x3)], [vi x2], (Wd S L F G h))) (by decide) [1, 0] rfl ⟨trivial, ⟨⟨g1, g2⟩, c3⟩⟩ ?_
    exact wp.fin (v := some (vi x2)) (by decide) am_m27 rfl ⟨_, rfl, Or.inl rfl, rfl⟩ H
  · rw [if_neg c3] at H
    obtain ⟨g4, H⟩ := H
    refine pt27 (s' := (4, [some (vr 1), some (vi x1), some (vi (x2 + (F 7 x3.toNat))), some (vi (x3 + 1))], [], (Wd S L F G h))) (by decide) [0, 0, 0, 7, 0, 0, 0, 0, 0, 0] rfl ⟨⟨⟨trivial, ⟨⟨g1, g2⟩, c3⟩⟩, ⟨Nat.le_of_ble_eq_true rfl, rfl, hh _ _ _ rfl⟩⟩, (ix ⟨Nat.le_of_ble_eq_true rfl, rfl⟩ g4)⟩ ?_
    exact wp.weak (a := [some (vr 1), some (vi x1), some (vi (x2 + (F 7 x3.toNat))), some (vi (x3 + 1))]) ⟨rfl, rfl, rfl, rfl, trivial⟩ H
set_option maxRecDepth 100000 in
set_option maxHeartbeats 4000000 in
theorem T29_0 {S L : Nat} {F G : Nat → Nat → Int} {h : Nat → Nat → Option Nat} (hh : RfH h) {a0 : Int} {a1 : Int} {a2 : Int}  {Q : Option V2 → W2 → Prop}
    (H : (R32 (((2 * a0) * a2) + a1) ∧
 R32 (2 * a1) ∧
 (if (2 * a1) = 0 then
  Q (some (vi 0)) (Wd S L F G h)
 else
  (((0 : Int) ≤ (((2 * a0) * a2) + a1) ∧ ((((2 * a0) * a2) + a1) : Int) ≤ 9223372036854775807 ∧ 0 < (2 * a1) ∧ (2 * a1) ≤ 9223372036854775807) ∧
  Q (some (vi ((((2 * a0) * a2) + a1) / (2 * a1)))) (Wd S L F G h))))) : C29_0 a0 a1 a2 (Wd S L F G h) Q := by
  obtain ⟨g1, H⟩ := H
  obtain ⟨g2, H⟩ := H
  refine pt29 (s' := (12, [some (vi a0), some (vi a1), some (vi a2)], [vj (2 * a1), vj (((2 * a0) * a2) + a1)], (Wd S L F G h))) (by decide) [0, 0, 0, 0, 0, 0, 0, 0, 0, 0, 0, 0] rfl ⟨⟨trivial, g1⟩, g2⟩ ?_
  refine wp.cl am_m29 rfl am_m106 6 [vj (((2 * a0) * a2) + a1), vj (2 * a1)] [] rfl (Nat.le_of_ble_eq_true rfl) ⟨(Nat.le_of_ble_eq_true rfl), (Nat.le_of_ble_eq_true rfl)⟩ rfl (Nat.le_of_ble_eq_true rfl) rfl (Nat.le_of_ble_eq_true rfl) (Nat.le_of_ble_eq_true rfl) trivial ?_
  refine pt106 (s' := (3, [some (vj (((2 * a0) * a2) + a1)), none, some (vj (2 * a1)), none], [vi (y_cmp (2 * a1) 0)], (Wd S L F G h))) (by decide) [0, 0, 0] rfl ⟨trivial, (Or.inl ⟨(r64 g2), (by decide : R64 0)⟩)⟩ ?_
  by_cases c3 : (2 * a1) = 0
  · rw [if_pos c3] at H
    refine pt106 (s' := (13, [some (vj (((2 * a0) * a2) + a1)), none, some (vj (2 * a1)), none], [vj 0], (Wd S L F G h))) (by decide) [0, 0, 0] rfl ⟨trivial, ⟨y_cmp_r32, (y_cmp_eq.mpr c3)⟩⟩ ?_
    refine wp.fin (v := some (vj 0)) (by decide) am_m106 rfl ⟨_, rfl, rfl, rfl⟩ ?_
    show wp 7 29 (15, [some (vi a0), some (vi a1), some (vi a2)], [vj 0], (Wd S L F G h)) _
    refine pt29 (s' := (16, [some (vi a0), some (vi a1), some (vi a2)], [vi 0], (Wd S L F G h))) (by decide) [0] rfl trivial ?_
    exact wp.fin (v := some (vi 0)) (by decide) am_m29 rfl ⟨_, rfl, Or.inl rfl, rfl⟩ H
  · rw [if_neg c3] at H
    obtain ⟨g4, H⟩ := H
    refine pt106 (s' := (13, [some (vj (((2 * a0) * a2) + a1)), none, some (vj (2 * a1)), none], [vj ((((2 * a0) * a2) + a1) / (2 * a1))], (Wd S L F G h))) (by decide) [1, 0, 0, 0] rfl ⟨⟨trivial, ⟨y_cmp_r32, (y_cmp_ne.mpr c3)⟩⟩, g4⟩ ?_
    refine wp.fin (v := some (vj ((((2 * a0) * a2) + a1) / (2 * a1)))) (by decide) am_m106 rfl ⟨_, rfl, rfl, rfl⟩ ?_
    show wp 7 29 (15, [some (vi a0), some (vi a1), some (vi a2)], [vj ((((2 * a0) * a2) + a1) / (2 * a1))], (Wd S L F G h)) _
    refine pt29 (s' := (16, [some (vi a0), some (vi a1), some (vi a2)], [vi ((((2 * a0) * a2) + a1) / (2 * a1))], (Wd S L F G h))) (by decide) [0] rfl trivial ?_
    exact wp.fin (v := some (vi ((((2 * a0) * a2) + a1) / (2 * a1)))) (by decide) am_m29 rfl ⟨_, rfl, Or.inl rfl, rfl⟩ H
set_option maxRecDepth 100000 in
set_option maxHeartbeats 4000000 in
theorem T30_0 {S L : Nat} {F G : Nat → Nat → Int} {h : Nat → Nat → Option Nat} (hh : RfH h) {a1 : Int} {a2 : Int} {a3 : Int}  {Q : Option V2 → W2 → Prop}
    (H : (R32 a1 ∧
 (if a1 < 0 then
  Q (some (vi (-1))) (Wd S L F G h)
 else
  (if 7 < a1 then
   Q (some (vi (-1))) (Wd S L F G h)
  else
   (R32 a2 ∧
   (if a2 < 0 then
    Q (some (vi (-1))) (Wd S L F G h)
   else
    (if 12 < a2 then
     Q (some (vi (-1))) (Wd S L F G h)
    else
     (R32 a3 ∧
     (if a3 < 0 then
      Q (some (vi (-1))) (Wd S L F G h)
     else
      (if 12 < a3 then
       Q (some (vi (-1))) (Wd S L F G h)
      else
       ((0 ≤ a1 ∧ a1 < 8) ∧
       R32 (F 2 a1.toNat) ∧
       (if (F 2 a1.toNat) = a2 then
        (R32 (F 3 a1.toNat) ∧
        (if (F 3 a1.toNat) = a3 then
         Q (some (vi (-2))) (Wd S L F G h)
        else
         Q (some (vi ((13 * (F 2 a1.toNat)) + (F 3 a1.toNat)))) (Wd S L (am_up (am_up F 2 a1.toNat a2) 3 a1.toNat a3) G h)))
       else
        Q (some (vi ((13 * (F 2 a1.toNat)) + (F 3 a1.toNat)))) (Wd S L (am_up (am_up F 2 a1.toNat a2) 3 a1.toNat a3) G h))))))))))))) : C30_0 a1 a2 a3 (Wd S L F G h) Q := by
  refine pt30 (s' := (4, [some (vr 1), some (vi a1), some (vi a2), some (vi a3), none], [vi 7, vi 0, vi a1], (Wd S L F G h))) (by decide) [0, 0, 0] rfl trivial ?_
  refine wp.cl am_m30 rfl am_m101 6 [vi a1, vi 0, vi 7] [] rfl (Nat.le_of_ble_eq_true rfl) ⟨(Nat.le_of_ble_eq_true rfl), (Nat.le_of_ble_eq_true rfl)⟩ rfl (Nat.le_of_ble_eq_true rfl) rfl (Nat.le_of_ble_eq_true rfl) (Nat.le_of_ble_eq_true rfl) trivial ?_
  obtain ⟨g1, H⟩ := H
  refine pt101 (s' := (2, [some (vi a1), some (vi 0), some (vi 7)], [vi 0, vi a1], (Wd S L F G h))) (by decide) [0, 0] rfl trivial ?_
  by_cases c2 : a1 < 0
  · rw [if_pos c2] at H
    refine pt101 (s' := (15, [some (vi a1), some (vi 0), some (vi 7)], [vi 0], (Wd S L F G h))) (by decide) [1, 0] rfl ⟨trivial, ⟨⟨g1, (by decide : R32 0)⟩, c2⟩⟩ ?_
    refine wp.fin (v := some (vi 0)) (by decide) am_m101 rfl ⟨_, rfl, Or.inr ⟨rfl, Or.inl rfl⟩, rfl⟩ ?_
    show wp 7 30 (7, [some (vr 1), some (vi a1), some (vi a2), some (vi a3), none], [vi 0], (Wd S L F G h)) _
    refine pt30 (s' := (31, [some (vr 1), some (vi a1), some (vi a2), some (vi a3), none], [vi (-1)], (Wd S L F G h))) (by decide) [1, 0] rfl ⟨trivial, ⟨(by decide : R32 0), (by decide : (0 : Int) = (0 : Int))⟩⟩ ?_
    exact wp.fin (v := some (vi (-1))) (by decide) am_m30 rfl ⟨_, rfl, Or.inl rfl, rfl⟩ H
  · rw [if_neg c2] at H
    refine pt101 (s' := (7, [some (vi a1), some (vi 0), some (vi 7)], [vi 7, vi a1], (Wd S L F G h))) (by decide) [0, 0, 0] rfl ⟨trivial, ⟨⟨g1, (by decide : R32 0)⟩, c2⟩⟩ ?_
    by_cases c3 : 7 < a1
    · rw [if_pos c3] at H
      refine pt101 (s' := (15, [some (vi a1), some (vi 0), some (vi 7)], [vi 0], (Wd S L F G h))) (by decide) [1, 0] rfl ⟨trivial, ⟨⟨g1, (by decide : R32 7)⟩, c3⟩⟩ ?_
      refine wp.fin (v := some (vi 0)) (by decide) am_m101 rfl ⟨_, rfl, Or.inr ⟨rfl, Or.inl rfl⟩, rfl⟩ ?_
      show wp 7 30 (7, [some (vr 1), some (vi a1), some (vi a2), some (vi a3), none], [vi 0], (Wd S L F G h)) _
      refine pt30 (s' := (31, [some (vr 1), some (vi a1), some (vi a2), some (vi a3), none], [vi (-1)], (Wd S L F G h))) (by decide) [1, 0] rfl ⟨trivial, ⟨(by decide : R32 0), (by decide : (0 : Int) = (0 : Int))⟩⟩ ?_
      exact wp.fin (v := some (vi (-1))) (by decide) am_m30 rfl ⟨_, rfl, Or.inl rfl, rfl⟩ H
    · rw [if_neg c3] at H
      refine pt101 (s' := (15, [some (vi a1), some (vi 0), some (vi 7)], [vi 1], (Wd S L F G h))) (by decide) [0, 0, 0] rfl ⟨trivial, ⟨⟨g1, (by decide : R32 7)⟩, c3⟩⟩ ?_
      refine wp.fin (v := some (vi 1)) (by decide) am_m101 rfl ⟨_, rfl, Or.inr ⟨rfl, Or.inr rfl⟩, rfl⟩ ?_
      show wp 7 30 (7, [some (vr 1), some (vi a1), some (vi a2), some (vi a3), none], [vi 1], (Wd S L F G h)) _
      refine pt30 (s' := (14, [some (vr 1), some (vi a1), some (vi a2), some (vi a3), none], [vi 12, vi 0, vi a2], (Wd S L F G h))) (by decide) [0, 0, 0, 0] rfl ⟨trivial, ⟨(by decide : R32 1), (by decide : ¬ (1 : Int) = (0 : Int))⟩⟩ ?_
      refine wp.cl am_m30 rfl am_m101 6 [vi a2, vi 0, vi 12] [] rfl (Nat.le_of_ble_eq_true rfl) ⟨(Nat.le_of_ble_eq_true rfl), (Nat.le_of_ble_eq_true rfl)⟩ rfl (Nat.le_of_ble_eq_true rfl) rfl (Nat.le_of_ble_eq_true rfl) (Nat.le_of_ble_eq_true rfl) trivial ?_
      obtain ⟨g4, H⟩ := H
      refine pt101 (s' := (2, [some (vi a2), some (vi 0), some (vi 12)], [vi 0, vi a2], (Wd S L F G h))) (by decide) [0, 0] rfl trivial ?_
      by_cases c5 : a2 < 0
      · rw [if_pos c5] at H
        refine pt101 (s' := (15, [some (vi a2), some (vi 0), some (vi 12)], [vi 0], (Wd S L F G h))) (by decide) [1, 0] rfl ⟨trivial, ⟨⟨g4, (by decide : R32 0)⟩, c5⟩⟩ ?_
        refine wp.fin (v := some (vi 0)) (by decide) am_m101 rfl ⟨_, rfl, Or.inr ⟨rfl, Or.inl rfl⟩, rfl⟩ ?_
        show wp 7 30 (17, [some (vr 1), some (vi a1), some (vi a2), some (vi a3), none], [vi 0], (Wd S L F G h)) _
        refine pt30 (s' := (31, [some (vr 1), some (vi a1), some (vi a2), some (vi a3), none], [vi (-1)], (Wd S L F G h))) (by decide) [1, 0] rfl ⟨trivial, ⟨(by decide : R32 0), (by decide : (0 : Int) = (0 : Int))⟩⟩ ?_
        exact wp.fin (v := some (vi (-1))) (by decide) am_m30 rfl ⟨_, rfl, Or.inl rfl, rfl⟩ H
      · rw [if_neg c5] at H
        refine pt101 (s' := (7, [some (vi a2), some (vi 0), some (vi 12)], [vi 12, vi a2], (Wd S L F G h))) (by decide) [0, 0, 0] rfl ⟨trivial, ⟨⟨g4, (by decide : R32 0)⟩, c5⟩⟩ ?_
        by_cases c6 : 12 < a2
        · rw [if_pos c6] at H
          refine pt101 (s' := (15, [some (vi a2), some (vi 0), some (vi 12)], [vi 0], (Wd S L F G h))) (by decide) [1, 0] rfl ⟨trivial, ⟨⟨g4, (by decide : R32 12)⟩, c6⟩⟩ ?_
          refine wp.fin (v := some (vi 0)) (by decide) am_m101 rfl ⟨_, rfl, Or.inr ⟨rfl, Or.inl rfl⟩, rfl⟩ ?_
          show wp 7 30 (17, [some (vr 1), some (vi a1), some (vi a2), some (vi a3), none], [vi 0], (Wd S L F G h)) _
          refine pt30 (s' := (31, [some (vr 1), some (vi a1), some (vi a2), some (vi a3), none], [vi (-1)], (Wd S L F G h))) (by decide) [1, 0] rfl ⟨trivial, ⟨(by decide : R32 0), (by decide : (0 : Int) = (0 : Int))⟩⟩ ?_
          exact wp.fin (v := some (vi (-1))) (by decide) am_m30 rfl ⟨_, rfl, Or.inl rfl, rfl⟩ H
        · rw [if_neg c6] at H
          refine pt101 (s' := (15, [some (vi a2), some (vi 0), some (vi 12)], [vi 1], (Wd S L F G h))) (by decide) [0, 0, 0] rfl ⟨trivial, ⟨⟨g4, (by decide : R32 12)⟩, c6⟩⟩ ?_
          refine wp.fin (v := some (vi 1)) (by decide) am_m101 rfl ⟨_, rfl, Or.inr ⟨rfl, Or.inr rfl⟩, rfl⟩ ?_
          show wp 7 30 (17, [some (vr 1), some (vi a1), some (vi a2), some (vi a3), none], [vi 1], (Wd S L F G h)) _
          refine pt30 (s' := (24, [some (vr 1), some (vi a1), some (vi a2), some (vi a3), none], [vi 12, vi 0, vi a3], (Wd S L F G h))) (by decide) [0, 0, 0, 0] rfl ⟨trivial, ⟨(by decide : R32 1), (by decide : ¬ (1 : Int) = (0 : Int))⟩⟩ ?_
          refine wp.cl am_m30 rfl am_m101 6 [vi a3, vi 0, vi 12] [] rfl (Nat.le_of_ble_eq_true rfl) ⟨(Nat.le_of_ble_eq_true rfl), (Nat.le_of_ble_eq_true rfl)⟩ rfl (Nat.le_of_ble_eq_true rfl) rfl (Nat.le_of_ble_eq_true rfl) (Nat.le_of_ble_eq_true rfl) trivial ?_
          obtain ⟨g7, H⟩ := H
          refine pt101 (s' := (2, [some (vi a3), some (vi 0), some (vi 12)], [vi 0, vi a3], (Wd S L F G h))) (by decide) [0, 0] rfl trivial ?_
          by_cases c8 : a3 < 0
          · rw [if_pos c8] at H
            refine pt101 (s' := (15, [some (vi a3), some (vi 0), some (vi 12)], [vi 0], (Wd S L F G h))) (by decide) [1, 0] rfl ⟨trivial, ⟨⟨g7, (by decide : R32 0)⟩, c8⟩⟩ ?_
            refine wp.fin (v := some (vi 0)) (by decide) am_m101 rfl ⟨_, rfl, Or.inr ⟨rfl, Or.inl rfl⟩, rfl⟩ ?_
            show wp 7 30 (27, [some (vr 1), some (vi a1), some (vi a2), some (vi a3), none], [vi 0], (Wd S L F G h)) _
            refine pt30 (s' := (31, [some (vr 1), some (vi a1), some (vi a2), some (vi a3), none], [vi (-1)], (Wd S L F G h))) (by decide) [0, 0] rfl ⟨trivial, ⟨(by decide : R32 0), (by decide : (0 : Int) = (0 : Int))⟩⟩ ?_
            exact wp.fin (v := some (vi (-1))) (by decide) am_m30 rfl ⟨_, rfl, Or.inl rfl, rfl⟩ H
          · rw [if_neg c8] at H
            refine pt101 (s' := (7, [some (vi a3), some (vi 0), some (vi 12)], [vi 12, vi a3], (Wd S L F G h))) (by decide) [0, 0, 0] rfl ⟨trivial, ⟨⟨g7, (by decide : R32 0)⟩, c8⟩⟩ ?_
            by_cases c9 : 12 < a3
            · rw [if_pos c9] at H
              refine pt101 (s' := (15, [some (vi a3), some (vi 0), some (vi 12)], [vi 0], (Wd S L F G h))) (by decide) [1, 0] rfl ⟨trivial, ⟨⟨g7, (by decide : R32 12)⟩, c9⟩⟩ ?_
              refine wp.fin (v := some (vi 0)) (by decide) am_m101 rfl ⟨_, rfl, Or.inr ⟨rfl, Or.inl rfl⟩, rfl⟩ ?_
              show wp 7 30 (27, [some (vr 1), some (vi a1), some (vi a2), some (vi a3), none], [vi 0], (Wd S L F G h)) _
              refine pt30 (s' := (31, [some (vr 1), some (vi a1), some (vi a2), some (vi a3), none], [vi (-1)], (Wd S L F G h))) (by decide) [0, 0] rfl ⟨trivial, ⟨(by decide : R32 0), (by decide : (0 : Int) = (0 : Int))⟩⟩ ?_
              exact wp.fin (v := some (vi (-1))) (by decide) am_m30 rfl ⟨_, rfl, Or.inl rfl, rfl⟩ H
            · rw [if_neg c9] at H
              refine pt101 (s' := (15, [some (vi a3), some (vi 0), some (vi 12)], [vi 1], (Wd S L F G h))) (by decide) [0, 0, 0] rfl ⟨trivial, ⟨⟨g7, (by decide : R32 12)⟩, c9⟩⟩ ?_
              refine wp.fin (v := some (vi 1)) (by decide) am_m101 rfl ⟨_, rfl, Or.inr ⟨rfl, Or.inr rfl⟩, rfl⟩ ?_
              show wp 7 30 (27, [some (vr 1), some (vi a1), some (vi a2), some (vi a3), none], [vi 1], (Wd S L F G h)) _
              obtain ⟨g10, H⟩ := H
              obtain ⟨g11, H⟩ := H
              refine pt30 (s' := (39, [some (vr 1), some (vi a1), some (vi a2), some (vi a3), none], [vi a2, vi (F 2 a1.toNat)], (Wd S L F G h))) (by decide) [1, 0, 2, 0, 0, 0] rfl ⟨⟨⟨trivial, ⟨(by decide : R32 1), (by decide : ¬ (1 : Int) = (0 : Int))⟩⟩, ⟨Nat.le_of_ble_eq_true rfl, rfl, hh _ _ _ rfl⟩⟩, (ix ⟨Nat.le_of_ble_eq_true rfl, rfl⟩ g10)⟩ ?_
              by_cases c12 : (F 2 a1.toNat) = a2
              · rw [if_pos c12] at H
                obtain ⟨g13, H⟩ := H
                refine pt30 (s' := (49, [some (vr 1), some (vi a1), some (vi a2), some (vi a3), none], [vi a3, vi (F 3 a1.toNat)], (Wd S L F G h))) (by decide) [0, 0, 3, 0, 0, 0] rfl ⟨⟨⟨trivial, ⟨⟨g11, g4⟩, c12⟩⟩, ⟨Nat.le_of_ble_eq_true rfl, rfl, hh _ _ _ rfl⟩⟩, (ix ⟨Nat.le_of_ble_eq_true rfl, rfl⟩ g10)⟩ ?_
                by_cases c14 : (F 3 a1.toNat) = a3
                · rw [if_pos c14] at H
                  refine pt30 (s' := (54, [some (vr 1), some (vi a1), some (vi a2), some (vi a3), none], [vi (-2)], (Wd S L F G h))) (by decide) [0, 0] rfl ⟨trivial, ⟨⟨g13, g7⟩, c14⟩⟩ ?_
                  exact wp.fin (v := some (vi (-2))) (by decide) am_m30 rfl ⟨_, rfl, Or.inl rfl, rfl⟩ H
                · rw [if_neg c14] at H
                  refine pt30 (s' := (89, [some (vr 1), some (vi a1), some (vi a2), some (vi a3), some (vi ((13 * (F 2 a1.toNat)) + (F 3 a1.toNat)))], [vi ((13 * (F 2 a1.toNat)) + (F 3 a1.toNat))], (Wd S L (am_up (am_up F 2 a1.toNat a2) 3 a1.toNat a3) G h))) (by decide) [1, 0, 0, 2, 0, 0, 0, 0, 3, 0, 0, 0, 0, 0, 2, 0, 0, 0, 0, 3, 0, 0, 0, 0] rfl ⟨⟨⟨⟨⟨⟨⟨⟨⟨trivial, ⟨⟨g13, g7⟩, c14⟩⟩, ⟨Nat.le_of_ble_eq_true rfl, rfl, hh _ _ _ rfl⟩⟩, (ix ⟨Nat.le_of_ble_eq_true rfl, rfl⟩ g10)⟩, ⟨Nat.le_of_ble_eq_true rfl, rfl, hh _ _ _ rfl⟩⟩, (ix ⟨Nat.le_of_ble_eq_true rfl, rfl⟩ g10)⟩, ⟨Nat.le_of_ble_eq_true rfl, rfl, hh _ _ _ rfl⟩⟩, (ix ⟨Nat.le_of_ble_eq_true rfl, rfl⟩ g10)⟩, ⟨Nat.le_of_ble_eq_true rfl, rfl, hh _ _ _ rfl⟩⟩, (ix ⟨Nat.le_of_ble_eq_true rfl, rfl⟩ g10)⟩ ?_
                  exact wp.fin (v := some (vi ((13 * (F 2 a1.toNat)) + (F 3 a1.toNat)))) (by decide) am_m30 rfl ⟨_, rfl, Or.inl rfl, rfl⟩ H
              · rw [if_neg c12] at H
                refine pt30 (s' := (89, [some (vr 1), some (vi a1), some (vi a2), some (vi a3), some (vi ((13 * (F 2 a1.toNat)) + (F 3 a1.toNat)))], [vi ((13 * (F 2 a1.toNat)) + (F 3 a1.toNat))], (Wd S L (am_up (am_up F 2 a1.toNat a2) 3 a1.toNat a3) G h))) (by decide) [1, 0, 0, 2, 0, 0, 0, 0, 3, 0, 0, 0, 0, 0, 2, 0, 0, 0, 0, 3, 0, 0, 0, 0] rfl ⟨⟨⟨⟨⟨⟨⟨⟨⟨trivial, ⟨⟨g11, g4⟩, c12⟩⟩, ⟨Nat.le_of_ble_eq_true rfl, rfl, hh _ _ _ rfl⟩⟩, (ix ⟨Nat.le_of_ble_eq_true rfl, rfl⟩ g10)⟩, ⟨Nat.le_of_ble_eq_true rfl, rfl, hh _ _ _ rfl⟩⟩, (ix ⟨Nat.le_of_ble_eq_true rfl, rfl⟩ g10)⟩, ⟨Nat.le_of_ble_eq_true rfl, rfl, hh _ _ _ rfl⟩⟩, (ix ⟨Nat.le_of_ble_eq_true rfl, rfl⟩ g10)⟩, ⟨Nat.le_of_ble_eq_true rfl, rfl, hh _ _ _ rfl⟩⟩, (ix ⟨Nat.le_of_ble_eq_true rfl, rfl⟩ g10)⟩ ?_
                exact wp.fin (v := some (vi ((13 * (F 2 a1.toNat)) + (F 3 a1.toNat)))) (by decide) am_m30 rfl ⟨_, rfl, Or.inl rfl, rfl⟩ H
set_option maxRecDepth 100000 in
set_option maxHeartbeats 4000000 in
theorem T31_0 {S L : Nat} {F G : Nat → Nat → Int} {h : Nat → Nat → Option Nat} (hh : RfH h) {a1 : Int} {a2 : Int} {a3 : Int}  {Q : Option V2 → W2 → Prop}
    (H : (R32 a1 ∧
 (if a1 < 0 then
  Q (some (vi (-1))) (Wd S L F G h)
 else
  (if 11 < a1 then
   Q (some (vi (-1))) (Wd S L F G h)
  else
   (R32 a2 ∧
   (if a2 < 0 then
    Q (some (vi (-1))) (Wd S L F G h)
   else
    (if 7 < a2 then
     Q (some (vi (-1))) (Wd S L F G h)
    else
     (R32 a3 ∧
     (if a3 < 0 then
      Q (some (vi (-1))) (Wd S L F G h)
     else
      (if 5 < a3 then
       Q (some (vi (-1))) (Wd S L F G h)
      else
       ((0 ≤ a1 ∧ a1 < 12) ∧
       R32 (F 4 a1.toNat) ∧
       (if (F 4 a1.toNat) = a2 then
        (R32 (F 5 a1.toNat) ∧
        (if (F 5 a1.toNat) = a3 then
         Q (some (vi (-2))) (Wd S L F G h)
        else
         Q (some (vi ((6 * (F 4 a1.toNat)) + (F 5 a1.toNat)))) (Wd S L (am_up (am_up F 4 a1.toNat a2) 5 a1.toNat a3) G h)))
       else
        Q (some (vi ((6 * (F 4 a1.toNat)) + (F 5 a1.toNat)))) (Wd S L (am_up (am_up F 4 a1.toNat a2) 5 a1.toNat a3) G h))))))))))))) : C31_0 a1 a2 a3 (Wd S L F G h) Q := by
  refine pt31 (s' := (4, [some (vr 1), some (vi a1), some (vi a2), some (vi a3), none], [vi 11, vi 0, vi a1], (Wd S L F G h))) (by decide) [0, 0, 0] rfl trivial ?_
  refine wp.cl am_m31 rfl am_m101 6 [vi a1, vi 0, vi 11] [] rfl (Nat.le_of_ble_eq_true rfl) ⟨(Nat.le_of_ble_eq_true rfl), (Nat.le_of_ble_eq_true rfl)⟩ rfl (Nat.le_of_ble_eq_true rfl) rfl (Nat.le_of_ble_eq_true rfl) (Nat.le_of_ble_eq_true rfl) trivial ?_
  obtain ⟨g1, H⟩ := H
  refine pt101 (s' := (2, [some (vi a1), some (vi 0), some (vi 11)], [vi 0, vi a1], (Wd S L F G h))) (by decide) [0, 0] rfl trivial ?_
  by_cases c2 : a1 < 0
  · rw [if_pos c2] at H
    refine pt101 (s' := (15, [some (vi a1), some (vi 0), some (vi 11)], [vi 0], (Wd S L F G h))) (by decide) [1, 0] rfl ⟨trivial, ⟨⟨g1, (by decide : R32 0)⟩, c2⟩⟩ ?_
    refine wp.fin (v := some (vi 0)) (by decide) am_m101 rfl ⟨_, rfl, Or.inr ⟨rfl, Or.inl rfl⟩, rfl⟩ ?_
    show wp 7 31 (7, [some (vr 1), some (vi a1), some (vi a2), some (vi a3), none], [vi 0], (Wd S L F G h)) _
    refine pt31 (s' := (30, [some (vr 1), some (vi a1), some (vi a2), some (vi a3), none], [vi (-1)], (Wd S L F G h))) (by decide) [1, 0] rfl ⟨trivial, ⟨(by decide : R32 0), (by decide : (0 : Int) = (0 : Int))⟩⟩ ?_
    exact wp.fin (v := some (vi (-1))) (by decide) am_m31 rfl ⟨_, rfl, Or.inl rfl, rfl⟩ H
  · rw [if_neg c2] at H
    refine pt101 (s' := (7, [some (vi a1), some (vi 0), some (vi 11)], [vi 11, vi a1], (Wd S L F G h))) (by decide) [0, 0, 0] rfl ⟨trivial, ⟨⟨g1, (by decide : R32 0)⟩, c2⟩⟩ ?_
    by_cases c3 : 11 < a1
    · rw [if_pos c3] at H
      refine pt101 (s' := (15, [some (vi a1), some (vi 0), some (vi 11)], [vi 0], (Wd S L F G h))) (by decide) [1, 0] rfl ⟨trivial, ⟨⟨g1, (by decide : R32 11)⟩, c3⟩⟩ ?_
      refine wp.fin (v := some (vi 0)) (by decide) am_m101 rfl ⟨_, rfl, Or.inr ⟨rfl, Or.inl rfl⟩, rfl⟩ ?_
      show wp 7 31 (7, [some (vr 1), some (vi a1), some (vi a2), some (vi a3), none], [vi 0], (Wd S L F G h)) _
      refine pt31 (s' := (30, [some (vr 1), some (vi a1), some (vi a2), some (vi a3), none], [vi (-1)], (Wd S L F G h))) (by decide) [1, 0] rfl ⟨trivial, ⟨(by decide : R32 0), (by decide : (0 : Int) = (0 : Int))⟩⟩ ?_
      exact wp.fin (v := some (vi (-1))) (by decide) am_m31 rfl ⟨_, rfl, Or.inl rfl, rfl⟩ H
    · rw [if_neg c3] at H
      refine pt101 (s' := (15, [some (vi a1), some (vi 0), some (vi 11)], [vi 1], (Wd S L F G h))) (by decide) [0, 0, 0] rfl ⟨trivial, ⟨⟨g1, (by decide : R32 11)⟩, c3⟩⟩ ?_
      refine wp.fin (v := some (vi 1)) (by decide) am_m101 rfl ⟨_, rfl, Or.inr ⟨rfl, Or.inr rfl⟩, rfl⟩ ?_
      show wp 7 31 (7, [some (vr 1), some (vi a1), some (vi a2), some (vi a3), none], [vi 1], (Wd S L F G h)) _
      refine pt31 (s' := (14, [some (vr 1), some (vi a1), some (vi a2), some (vi a3), none], [vi 7, vi 0, vi a2], (Wd S L F G h))) (by decide) [0, 0, 0, 0] rfl ⟨trivial, ⟨(by decide : R32 1), (by decide : ¬ (1 : Int) = (0 : Int))⟩⟩ ?_
      refine wp.cl am_m31 rfl am_m101 6 [vi a2, vi 0, vi 7] [] rfl (Nat.le_of_ble_eq_true rfl) ⟨(Nat.le_of_ble_eq_true rfl), (Nat.le_of_ble_eq_true rfl)⟩ rfl (Nat.le_of_ble_eq_true rfl) rfl (Nat.le_of_ble_eq_true rfl) (Nat.le_of_ble_eq_true rfl) trivial ?_
      obtain ⟨g4, H⟩ := H
      refine pt101 (s' := (2, [some (vi a2), some (vi 0), some (vi 7)], [vi 0, vi a2], (Wd S L F G h))) (by decide) [0, 0] rfl trivial ?_
      by_cases c5 : a2 < 0
      · rw [if_pos c5] at H
        refine pt101 (s' := (15, [some (vi a2), some (vi 0), some (vi 7)], [vi 0], (Wd S L F G h))) (by decide) [1, 0] rfl ⟨trivial, ⟨⟨g4, (by decide : R32 0)⟩, c5⟩⟩ ?_
        refine wp.fin (v := some (vi 0)) (by decide) am_m101 rfl ⟨_, rfl, Or.inr ⟨rfl, Or.inl rfl⟩, rfl⟩ ?_
        show wp 7 31 (17, [some (vr 1), some (vi a1), some (vi a2), some (vi a3), none], [vi 0], (Wd S L F G h)) _
        refine pt31 (s' := (30, [some (vr 1), some (vi a1), some (vi a2), some (vi a3), none], [vi (-1)], (Wd S L F G h))) (by decide) [1, 0] rfl ⟨trivial, ⟨(by decide : R32 0), (by decide : (0 : Int) = (0 : Int))⟩⟩ ?_
        exact wp.fin (v := some (vi (-1))) (by decide) am_m31 rfl ⟨_, rfl, Or.inl rfl, rfl⟩ H
      · rw [if_neg c5] at H
        refine pt101 (s' := (7, [some (vi a2), some (vi 0), some (vi 7)], [vi 7, vi a2], (Wd S L F G h))) (by decide) [0, 0, 0] rfl ⟨trivial, ⟨⟨g4, (by decide : R32 0)⟩, c5⟩⟩ ?_
        by_cases c6 : 7 < a2
        · rw [if_pos c6] at H
          refine pt101 (s' := (15, [some (vi a2), some (vi 0), some (vi 7)], [vi 0], (Wd S L F G h))) (by decide) [1, 0] rfl ⟨trivial, ⟨⟨g4, (by decide : R32 7)⟩, c6⟩⟩ ?_
          refine wp.fin (v := some (vi 0)) (by decide) am_m101 rfl ⟨_, rfl, Or.inr ⟨rfl, Or.inl rfl⟩, rfl⟩ ?_
          show wp 7 31 (17, [some (vr 1), some (vi a1), some (vi a2), some (vi a3), none], [vi 0], (Wd S L F G h)) _
          refine pt31 (s' := (30, [some (vr 1), some (vi a1), some (vi a2), some (vi a3), none], [vi (-1)], (Wd S L F G h))) (by decide) [1, 0] rfl ⟨trivial, ⟨(by decide : R32 0), (by decide : (0 : Int) = (0 : Int))⟩⟩ ?_
          exact wp.fin (v := some (vi (-1))) (by decide) am_m31 rfl ⟨_, rfl, Or.inl rfl, rfl⟩ H
        · rw [if_neg c6] at H
          refine pt101 (s' := (15, [some (vi a2), some (vi 0), some (vi 7)], [vi 1], (Wd S L F G h))) (by decide) [0, 0, 0] rfl ⟨trivial, ⟨⟨g4, (by decide : R32 7)⟩, c6⟩⟩ ?_
          refine wp.fin (v := some (vi 1)) (by decide) am_m101 rfl ⟨_, rfl, Or.inr ⟨rfl, Or.inr rfl⟩, rfl⟩ ?_
          show wp 7 31 (17, [some (vr 1), some (vi a1), some (vi a2), some (vi a3), none], [vi 1], (Wd S L F G h)) _
          refine pt31 (s' := (23, [some (vr 1), some (vi a1), some (vi a2), some (vi a3), none], [vi 5, vi 0, vi a3], (Wd S L F G h))) (by decide) [0, 0, 0, 0] rfl ⟨trivial, ⟨(by decide : R32 1), (by decide : ¬ (1 : Int) = (0 : Int))⟩⟩ ?_
          refine wp.cl am_m31 rfl am_m101 6 [vi a3, vi 0, vi 5] [] rfl (Nat.le_of_ble_eq_true rfl) ⟨(Nat.le_of_ble_eq_true rfl), (Nat.le_of_ble_eq_true rfl)⟩ rfl (Nat.le_of_ble_eq_true rfl) rfl (Nat.le_of_ble_eq_true rfl) (Nat.le_of_ble_eq_true rfl) trivial ?_
          obtain ⟨g7, H⟩ := H
          refine pt101 (s' := (2, [some (vi a3), some (vi 0), some (vi 5)], [vi 0, vi a3], (Wd S L F G h))) (by decide) [0, 0] rfl trivial ?_
          by_cases c8 : a3 < 0
          · rw [if_pos c8] at H
            refine pt101 (s' := (15, [some (vi a3), some (vi 0), some (vi 5)], [vi 0], (Wd S L F G h))) (by decide) [1, 0] rfl ⟨trivial, ⟨⟨g7, (by decide : R32 0)⟩, c8⟩⟩ ?_
            refine wp.fin (v := some (vi 0)) (by decide) am_m101 rfl ⟨_, rfl, Or.inr ⟨rfl, Or.inl rfl⟩, rfl⟩ ?_
            show wp 7 31 (26, [some (vr 1), some (vi a1), some (vi a2), some (vi a3), none], [vi 0], (Wd S L F G h)) _
            refine pt31 (s' := (30, [some (vr 1), some (vi a1), some (vi a2), some (vi a3), none], [vi (-1)], (Wd S L F G h))) (by decide) [0, 0] rfl ⟨trivial, ⟨(by decide : R32 0), (by decide : (0 : Int) = (0 : Int))⟩⟩ ?_
            exact wp.fin (v := some (vi (-1))) (by decide) am_m31 rfl ⟨_, rfl, Or.inl rfl, rfl⟩ H
          · rw [if_neg c8] at H
            refine pt101 (s' := (7, [some (vi a3), some (vi 0), some (vi 5)], [vi 5, vi a3], (Wd S L F G h))) (by decide) [0, 0, 0] rfl ⟨trivial, ⟨⟨g7, (by decide : R32 0)⟩, c8⟩⟩ ?_
            by_cases c9 : 5 < a3
            · rw [if_pos c9] at H
              refine pt101 (s' := (15, [some (vi a3), some (vi 0), some (vi 5)], [vi 0], (Wd S L F G h))) (by decide) [1, 0] rfl ⟨trivial, ⟨⟨g7, (by decide : R32 5)⟩, c9⟩⟩ ?_
              refine wp.fin (v := some (vi 0)) (by decide) am_m101 rfl ⟨_, rfl, Or.inr ⟨rfl, Or.inl rfl⟩, rfl⟩ ?_
              show wp 7 31 (26, [some (vr 1), some (vi a1), some (vi a2), some (vi a3), none], [vi 0], (Wd S L F G h)) _
              refine pt31 (s' := (30, [some (vr 1), some (vi a1), some (vi a2), some (vi a3), none], [vi (-1)], (Wd S L F G h))) (by decide) [0, 0] rfl ⟨trivial, ⟨(by decide : R32 0), (by decide : (0 : Int) = (0 : Int))⟩⟩ ?_
              exact wp.fin (v := some (vi (-1))) (by decide) am_m31 rfl ⟨_, rfl, Or.inl rfl, rfl⟩ H
            · rw [if_neg c9] at H
              refine pt101 (s' := (15, [some (vi a3), some (vi 0), some (vi 5)], [vi 1], (Wd S L F G h))) (by decide) [0, 0, 0] rfl ⟨trivial, ⟨⟨g7, (by decide : R32 5)⟩, c9⟩⟩ ?_
              refine wp.fin (v := some (vi 1)) (by decide) am_m101 rfl ⟨_, rfl, Or.inr ⟨rfl, Or.inr rfl⟩, rfl⟩ ?_
              show wp 7 31 (26, [some (vr 1), some (vi a1), some (vi a2), some (vi a3), none], [vi 1], (Wd S L F G h)) _
              obtain ⟨g10, H⟩ := H
              obtain ⟨g11, H⟩ := H
              refine pt31 (s' := (38, [some (vr 1), some (vi a1), some (vi a2), some (vi a3), none], [vi a2, vi (F 4 a1.toNat)], (Wd S L F G h))) (by decide) [1, 0, 4, 0, 0, 0] rfl ⟨⟨⟨trivial, ⟨(by decide : R32 1), (by decide : ¬ (1 : Int) = (0 : Int))⟩⟩, ⟨Nat.le_of_ble_eq_true rfl, rfl, hh _ _ _ rfl⟩⟩, (ix ⟨Nat.le_of_ble_eq_true rfl, rfl⟩ g10)⟩ ?_
              by_cases c12 : (F 4 a1.toNat) = a2
              · rw [if_pos c12] at H
                obtain ⟨g13, H⟩ := H
                refine pt31 (s' := (48, [some (vr 1), some (vi a1), some (vi a2), some (vi a3), none], [vi a3, vi (F 5 a1.toNat)], (Wd S L F G h))) (by decide) [0, 0, 5, 0, 0, 0] rfl ⟨⟨⟨trivial, ⟨⟨g11, g4⟩, c12⟩⟩, ⟨Nat.le_of_ble_eq_true rfl, rfl, hh _ _ _ rfl⟩⟩, (ix ⟨Nat.le_of_ble_eq_true rfl, rfl⟩ g10)⟩ ?_
                by_cases c14 : (F 5 a1.toNat) = a3
                · rw [if_pos c14] at H
                  refine pt31 (s' := (53, [some (vr 1), some (vi a1), some (vi a2), some (vi a3), none], [vi (-2)], (Wd S L F G h))) (by decide) [0, 0] rfl ⟨trivial, ⟨⟨g13, g7⟩, c14⟩⟩ ?_
                  exact wp.fin (v := some (vi (-2))) (by decide) am_m31 rfl ⟨_, rfl, Or.inl rfl, rfl⟩ H
                · rw [if_neg c14] at H
                  refine pt31 (s' := (88, [some (vr 1), some (vi a1), some (vi a2), some (vi a3), some (vi ((6 * (F 4 a1.toNat)) + (F 5 a1.toNat)))], [vi ((6 * (F 4 a1.toNat)) + (F 5 a1.toNat))], (Wd S L (am_up (am_up F 4 a1.toNat a2) 5 a1.toNat a3) G h))) (by decide) [1, 0, 0, 4, 0, 0, 0, 0, 5, 0, 0, 0, 0, 0, 4, 0, 0, 0, 0, 5, 0, 0, 0, 0] rfl ⟨⟨⟨⟨⟨⟨⟨⟨⟨trivial, ⟨⟨g13, g7⟩, c14⟩⟩, ⟨Nat.le_of_ble_eq_true rfl, rfl, hh _ _ _ rfl⟩⟩, (ix ⟨Nat.le_of_ble_eq_true rfl, rfl⟩ g10)⟩, ⟨Nat.le_of_ble_eq_true rfl, rfl, hh _ _ _ rfl⟩⟩, (ix ⟨Nat.le_of_ble_eq_true rfl, rfl⟩ g10)⟩, ⟨Nat.le_of_ble_eq_true rfl, rfl, hh _ _ _ rfl⟩⟩, (ix ⟨Nat.le_of_ble_eq_true rfl, rfl⟩ g10)⟩, ⟨Nat.le_of_ble_eq_true rfl, rfl, hh _ _ _ rfl⟩⟩, (ix ⟨Nat.le_of_ble_eq_true rfl, rfl⟩ g10)⟩ ?_
                  exact wp.fin (v := some (vi ((6 * (F 4 a1.toNat)) + (F 5 a1.toNat)))) (by decide) am_m31 rfl ⟨_, rfl, Or.inl rfl, rfl⟩ H
              · rw [if_neg c12] at H
                refine pt31 (s' := (88, [some (vr 1), some (vi a1), some (vi a2), some (vi a3), some (vi ((6 * (F 4 a1.toNat)) + (F 5 a1.toNat)))], [vi ((6 * (F 4 a1.toNat)) + (F 5 a1.toNat))], (Wd S L (am_up (am_up F 4 a1.toNat a2) 5 a1.toNat a3) G h))) (by decide) [1, 0, 0, 4, 0, 0, 0, 0, 5, 0, 0, 0, 0, 0, 4, 0, 0, 0, 0, 5, 0, 0, 0, 0] rfl ⟨⟨⟨⟨⟨⟨⟨⟨⟨trivial, ⟨⟨g11, g4⟩, c12⟩⟩, ⟨Nat.le_of_ble_eq_true rfl, rfl, hh _ _ _ rfl⟩⟩, (ix ⟨Nat.le_of_ble_eq_true rfl, rfl⟩ g10)⟩, ⟨Nat.le_of_ble_eq_true rfl, rfl, hh _ _ _ rfl⟩⟩, (ix ⟨Nat.le_of_ble_eq_true rfl, rfl⟩ g10)⟩, ⟨Nat.le_of_ble_eq_true rfl, rfl, hh _ _ _ rfl⟩⟩, (ix ⟨Nat.le_of_ble_eq_true rfl, rfl⟩ g10)⟩, ⟨Nat.le_of_ble_eq_true rfl, rfl, hh _ _ _ rfl⟩⟩, (ix ⟨Nat.le_of_ble_eq_true rfl, rfl⟩ g10)⟩ ?_
                exact wp.fin (v := some (vi ((6 * (F 4 a1.toNat)) + (F 5 a1.toNat)))) (by decide) am_m31 rfl ⟨_, rfl, Or.inl rfl, rfl⟩ H
set_option maxRecDepth 100000 in
set_option maxHeartbeats 4000000 in
theorem T32_0 {S L : Nat} {F G : Nat → Nat → Int} {h : Nat → Nat → Option Nat} (hh : RfH h) {a1 : Int} {a2 : Int}  {Q : Option V2 → W2 → Prop}
    (H : (R32 a1 ∧
 (if a1 < 0 then
  Q (some (vi (-1))) (Wd S L F G h)
 else
  (if 11 < a1 then
   Q (some (vi (-1))) (Wd S L F G h)
  else
   (R32 a2 ∧
   (if a2 < 1 then
    Q (some (vi (-1))) (Wd S L F G h)
   else
    (if 12 < a2 then
     Q (some (vi (-1))) (Wd S L F G h)
    else
     (R32 (F 1 6) ∧
     (if 12 ≤ (F 1 6) then
      Q (some (vi (-3))) (Wd S L F G h)
     else
      C27_0 (F 1 6) (Wd S L F G h) (fun v w1 => ∃ (v9 : Int), v = some (vi v9) ∧ w1 = (Wd S L F G h) ∧
       C29_0 (v9 + a2) (F 1 7) (F 1 8) (Wd S L F G h) (fun v w1 => ∃ (v10 : Int), v = some (vi v10) ∧ w1 = (Wd S L F G h) ∧
        (R32 v10 ∧
        (if v10 ≤ 100 then
         ((0 ≤ (F 1 6) ∧ (F 1 6) < 12) ∧
         Q (some (vi (((F 1 6) + 1) - 1))) (Wd S L (am_up (am_up (am_up F 6 (F 1 6).toNat a1) 7 (F 1 6).toNat a2) 1 6 ((F 1 6) + 1)) G h))
        else
         Q (some (vi (-3))) (Wd S L F G h)))))))))))))) : C32_0 a1 a2 (Wd S L F G h) Q := by
  refine pt32 (s' := (4, [some (vr 1), some (vi a1), some (vi a2)], [vi 11, vi 0, vi a1], (Wd S L F G h))) (by decide) [0, 0, 0] rfl trivial ?_
  refine wp.cl am_m32 rfl am_m101 6 [vi a1, vi 0, vi 11] [] rfl (Nat.le_of_ble_eq_true rfl) ⟨(Nat.le_of_ble_eq_true rfl), (Nat.le_of_ble_eq_true rfl)⟩ rfl (Nat.le_of_ble_eq_true rfl) rfl (Nat.le_of_ble_eq_true rfl) (Nat.le_of_ble_eq_true rfl) trivial ?_
  obtain ⟨g1, H⟩ := H
  refine pt101 (s' := (2, [some (vi a1), some (vi 0), some (vi 11)], [vi 0, vi a1], (Wd S L F G h))) (by decide) [0, 0] rfl trivial ?_
  by_cases c2 : a1 < 0
  · rw [if_pos c2] at H
    refine pt101 (s' := (15, [some (vi a1), some (vi 0), some (vi 11)], [vi 0], (Wd S L F G h))) (by decide) [1, 0] rfl ⟨trivial, ⟨⟨g1, (by decide : R32 0)⟩, c2⟩⟩ ?_
    refine wp.fin (v := some (vi 0)) (by decide) am_m101 rfl ⟨_, rfl, Or.inr ⟨rfl, Or.inl rfl⟩, rfl⟩ ?_
    show wp 9 32 (7, [some (vr 1), some (vi a1), some (vi a2)], [vi 0], (Wd S L F G h)) _
    refine pt32 (s' := (21, [some (vr 1), some (vi a1), some (vi a2)], [vi (-1)], (Wd S L F G h))) (by decide) [1, 0] rfl ⟨trivial, ⟨(by decide : R32 0), (by decide : (0 : Int) = (0 : Int))⟩⟩ ?_
    exact wp.fin (v := some (vi (-1))) (by decide) am_m32 rfl ⟨_, rfl, Or.inl rfl, rfl⟩ H
  · rw [if_neg c2] at H
    refine pt101 (s' := (7, [some (vi a1), some (vi 0), some (vi 11)], [vi 11, vi a1], (Wd S L F G h))) (by decide) [0, 0, 0] rfl ⟨trivial, ⟨⟨g1, (by decide : R32 0)⟩, c2⟩⟩ ?_
    by_cases c3 : 11 < a1
    · rw [if_pos c3] at H
      refine pt101 (s' := (15, [some (vi a1), some (vi 0), some (vi 11)], [vi 0], (Wd S L F G h))) (by decide) [1, 0] rfl ⟨trivial, ⟨⟨g1, (by decide : R32 11)⟩, c3⟩⟩ ?_
      refine wp.fin (v := some (vi 0)) (by decide) am_m101 rfl ⟨_, rfl, Or.inr ⟨rfl, Or.inl rfl⟩, rfl⟩ ?_
      show wp 9 32 (7, [some (vr 1), some (vi a1), some (vi a2)], [vi 0], (Wd S L F G h)) _
      refine pt32 (s' := (21, [some (vr 1), some (vi a1), some (vi a2)], [vi (-1)], (Wd S L F G h))) (by decide) [1, 0] rfl ⟨trivial, ⟨(by decide : R32 0), (by decide : (0 : Int) = (0 : Int))⟩⟩ ?_
      exact wp.fin (v := some (vi (-1))) (by decide) am_m32 rfl ⟨_, rfl, Or.inl rfl, rfl⟩ H
    · rw [if_neg c3] at H
      refine pt101 (s' := (15, [some (vi a1), some (vi 0), some (vi 11)], [vi 1], (Wd S L F G h))) (by decide) [0, 0, 0] rfl ⟨trivial, ⟨⟨g1, (by decide : R32 11)⟩, c3⟩⟩ ?_
      refine wp.fin (v := some (vi 1)) (by decide) am_m101 rfl ⟨_, rfl, Or.inr ⟨rfl, Or.inr rfl⟩, rfl⟩ ?_
      show wp 9 32 (7, [some (vr 1), some (vi a1), some (vi a2)], [vi 1], (Wd S L F G h)) _
      refine pt32 (s' := (14, [some (vr 1), some (vi a1), some (vi a2)], [vi 12, vi 1, vi a2], (Wd S L F G h))) (by decide) [0, 0, 0, 0] rfl ⟨trivial, ⟨(by decide : R32 1), (by decide : ¬ (1 : Int) = (0 : Int))⟩⟩ ?_
      refine wp.cl am_m32 rfl am_m101 6 [vi a2, vi 1, vi 12] [] rfl (Nat.le_of_ble_eq_true rfl) ⟨(Nat.le_of_ble_eq_true rfl), (Nat.le_of_ble_eq_true rfl)⟩ rfl (Nat.le_of_ble_eq_true rfl) rfl (Nat.le_of_ble_eq_true rfl) (Nat.le_of_ble_eq_true rfl) trivial ?_
      obtain ⟨g4, H⟩ := H
      refine pt101 (s' := (2, [some (vi a2), some (vi 1), some (vi 12)], [vi 1, vi a2], (Wd S L F G h))) (by decide) [0, 0] rfl trivial ?_
      by_cases c5 : a2 < 1
      · rw [if_pos c5] at H
        refine pt101 (s' := (15, [some (vi a2), some (vi 1), some (vi 12)], [vi 0], (Wd S L F G h))) (by decide) [1, 0] rfl ⟨trivial, ⟨⟨g4, (by decide : R32 1)⟩, c5⟩⟩ ?_
        refine wp.fin (v := some (vi 0)) (by decide) am_m101 rfl ⟨_, rfl, Or.inr ⟨rfl, Or.inl rfl⟩, rfl⟩ ?_
        show wp 9 32 (17, [some (vr 1), some (vi a1), some (vi a2)], [vi 0], (Wd S L F G h)) _
        refine pt32 (s' := (21, [some (vr 1), some (vi a1), some (vi a2)], [vi (-1)], (Wd S L F G h))) (by decide) [0, 0] rfl ⟨trivial, ⟨(by decide : R32 0), (by decide : (0 : Int) = (0 : Int))⟩⟩ ?_
        exact wp.fin (v := some (vi (-1))) (by decide) am_m32 rfl ⟨_, rfl, Or.inl rfl, rfl⟩ H
      · rw [if_neg c5] at H
        refine pt101 (s' := (7, [some (vi a2), some (vi 1), some (vi 12)], [vi 12, vi a2], (Wd S L F G h))) (by decide) [0, 0, 0] rfl ⟨trivial, ⟨⟨g4, (by decide : R32 1)⟩, c5⟩⟩ ?_
        by_cases c6 : 12 < a2
        · rw [if_pos c6] at H
          refine pt101 (s' := (15, [some (vi a2), some (vi 1), some (vi 12)], [vi 0], (Wd S L F G h))) (by decide) [1, 0] rfl ⟨trivial, ⟨⟨g4, (by decide : R32 12)⟩, c6⟩⟩ ?_
          refine wp.fin (v := some (vi 0)) (by decide) am_m101 rfl ⟨_, rfl, Or.inr ⟨rfl, Or.inl rfl⟩, rfl⟩ ?_
          show wp 9 32 (17, [some (vr 1), some (vi a1), some (vi a2)], [vi 0], (Wd S L F G h)) _
          refine pt32 (s' := (21, [some (vr 1), some (vi a1), some (vi a2)], [vi (-1)], (Wd S L F G h))) (by decide) [0, 0] rfl ⟨trivial, ⟨(by decide : R32 0), (by decide : (0 : Int) = (0 : Int))⟩⟩ ?_
          exact wp.fin (v := some (vi (-1))) (by decide) am_m32 rfl ⟨_, rfl, Or.inl rfl, rfl⟩ H
        · rw [if_neg c6] at H
          refine pt101 (s' := (15, [some (vi a2), some (vi 1), some (vi 12)], [vi 1], (Wd S L F G h))) (by decide) [0, 0, 0] rfl ⟨trivial, ⟨⟨g4, (by decide : R32 12)⟩, c6⟩⟩ ?_
          refine wp.fin (v := some (vi 1)) (by decide) am_m101 rfl ⟨_, rfl, Or.inr ⟨rfl, Or.inr rfl⟩, rfl⟩ ?_
          show wp 9 32 (17, [some (vr 1), some (vi a1), some (vi a2)], [vi 1], (Wd S L F G h)) _
          obtain ⟨g7, H⟩ := H
          refine pt32 (s' := (28, [some (vr 1), some (vi a1), some (vi a2)], [vi 12, vi (F 1 6)], (Wd S L F G h))) (by decide) [1, 0, 0, 0] rfl ⟨⟨trivial, ⟨(by decide : R32 1), (by decide : ¬ (1 : Int) = (0 : Int))⟩⟩, ⟨Nat.le_of_ble_eq_true rfl, rfl⟩⟩ ?_
          by_cases c8 : 12 ≤ (F 1 6)
          · rw [if_pos c8] at H
            refine pt32 (s' := (52, [some (vr 1), some (vi a1), some (vi a2)], [vi (-3)], (Wd S L F G h))) (by decide) [1, 0] rfl ⟨trivial, ⟨⟨g7, (by decide : R32 12)⟩, c8⟩⟩ ?_
            exact wp.fin (v := some (vi (-3))) (by decide) am_m32 rfl ⟨_, rfl, Or.inl rfl, rfl⟩ H
          · rw [if_neg c8] at H
            refine pt32 (s' := (37, [some (vr 1), some (vi a1), some (vi a2)], [vi (F 1 6), vr 1, vr 1], (Wd S L F G h))) (by decide) [0, 0, 0, 0, 0] rfl ⟨⟨trivial, ⟨⟨g7, (by decide : R32 12)⟩, c8⟩⟩, ⟨Nat.le_of_ble_eq_true rfl, rfl⟩⟩ ?_
            refine wp.cl am_m32 rfl am_m27 6 [vr 1, vi (F 1 6)] [vr 1] rfl (Nat.le_of_ble_eq_true rfl) ⟨(Nat.le_of_ble_eq_true rfl), (Nat.le_of_ble_eq_true rfl)⟩ rfl (Nat.le_of_ble_eq_true rfl) rfl (Nat.le_of_ble_eq_true rfl) (Nat.le_of_ble_eq_true rfl) ⟨_, _, rfl, Nat.le_of_ble_eq_true rfl, rfl⟩ ?_
            refine wp.mono H ?_
            rintro v w1 ⟨v9, rfl, rfl, H⟩
            show wp 9 32 (40, [some (vr 1), some (vi a1), some (vi a2)], [vi v9, vr 1], (Wd S L F G h)) _
            refine pt32 (s' := (42, [some (vr 1), some (vi a1), some (vi a2)], [vi (v9 + a2), vr 1], (Wd S L F G h))) (by decide) [0, 0] rfl trivial ?_
            refine wp.cl am_m32 rfl am_m28 8 [vr 1, vi (v9 + a2)] [] rfl (Nat.le_of_ble_eq_true rfl) ⟨(Nat.le_of_ble_eq_true rfl), (Nat.le_of_ble_eq_true rfl)⟩ rfl (Nat.le_of_ble_eq_true rfl) rfl (Nat.le_of_ble_eq_true rfl) (Nat.le_of_ble_eq_true rfl) ⟨_, _, rfl, Nat.le_of_ble_eq_true rfl, rfl⟩ ?_
            refine pt28 (s' := (9, [some (vr 1), some (vi (v9 + a2))], [vi (F 1 8), vi (F 1 7), vi (v9 + a2)], (Wd S L F G h))) (by decide) [0, 0, 0, 0, 0] rfl ⟨⟨trivial, ⟨Nat.le_of_ble_eq_true rfl, rfl⟩⟩, ⟨Nat.le_of_ble_eq_true rfl, rfl⟩⟩ ?_
            refine wp.cl am_m28 rfl am_m29 7 [vi (v9 + a2), vi (F 1 7), vi (F 1 8)] [] rfl (Nat.le_of_ble_eq_true rfl) ⟨(Nat.le_of_ble_eq_true rfl), (Nat.le_of_ble_eq_true rfl)⟩ rfl (Nat.le_of_ble_eq_true rfl) rfl (Nat.le_of_ble_eq_true rfl) (Nat.le_of_ble_eq_true rfl) trivial ?_
            refine wp.mono H ?_
            rintro v w1 ⟨v10, rfl, rfl, H⟩
            show wp 8 28 (12, [some (vr 1), some (vi (v9 + a2))], [vi v10], (Wd S L F G h)) _
            refine wp.fin (v := some (vi v10)) (by decide) am_m28 rfl ⟨_, rfl, Or.inl rfl, rfl⟩ ?_
            show wp 9 32 (45, [some (vr 1), some (vi a1), some (vi a2)], [vi v10], (Wd S L F G h)) _
            obtain ⟨g11, H⟩ := H
            refine pt32 (s' := (47, [some (vr 1), some (vi a1), some (vi a2)], [vi 100, vi v10], (Wd S L F G h))) (by decide) [0] rfl trivial ?_
            by_cases c12 : v10 ≤ 100
            · rw [if_pos c12] at H
              obtain ⟨g13, H⟩ := H
              refine pt32 (s' := (89, [some (vr 1), some (vi a1), some (vi a2)], [vi (((F 1 6) + 1) - 1)], (Wd S L (am_up (am_up (am_up F 6 (F 1 6).toNat a1) 7 (F 1 6).toNat a2) 1 6 ((F 1 6) + 1)) G h))) (by decide) [1, 0, 6, 0, 0, 0, 0, 0, 7, 0, 0, 0, 0, 0, 0, 0, 0, 0, 0, 0, 0, 0, 0] rfl ⟨⟨⟨⟨⟨⟨⟨⟨⟨⟨trivial, ⟨⟨g11, (by decide : R32 100)⟩, c12⟩⟩, ⟨Nat.le_of_ble_eq_true rfl, rfl, hh _ _ _ rfl⟩⟩, ⟨Nat.le_of_ble_eq_true rfl, rfl⟩⟩, (ix ⟨Nat.le_of_ble_eq_true rfl, rfl⟩ g13)⟩, ⟨Nat.le_of_ble_eq_true rfl, rfl, hh _ _ _ rfl⟩⟩, ⟨Nat.le_of_ble_eq_true rfl, rfl⟩⟩, (ix ⟨Nat.le_of_ble_eq_true rfl, rfl⟩ g13)⟩, ⟨Nat.le_of_ble_eq_true rfl, rfl⟩⟩, ⟨Nat.le_of_ble_eq_true rfl, rfl, fun h => by cases h⟩⟩, ⟨Nat.le_of_ble_eq_true rfl, rfl⟩⟩ ?_
              exact wp.fin (v := some (vi (((F 1 6) + 1) - 1))) (by decide) am_m32 rfl ⟨_, rfl, Or.inl rfl, rfl⟩ H
            · rw [if_neg c12] at H
              refine pt32 (s' := (52, [some (vr 1), some (vi a1), some (vi a2)], [vi (-3)], (Wd S L F G h))) (by decide) [0, 0] rfl ⟨trivial, ⟨⟨g11, (by decide : R32 100)⟩, c12⟩⟩ ?_
              exact wp.fin (v := some (vi (-3))) (by decide) am_m32 rfl ⟨_, rfl, Or.inl rfl, rfl⟩ H
set_option maxRecDepth 100000 in
set_option maxHeartbeats 4000000 in
theorem T33_0 {S L : Nat} {F G : Nat → Nat → Int} {h : Nat → Nat → Option Nat} (hh : RfH h) {a1 : Int}  {Q : Option V2 → W2 → Prop}
    (H : (R32 a1 ∧
 (if a1 < 0 then
  Q (some (vi (-1))) (Wd S L F G h)
 else
  (R32 ((F 1 6) - 1) ∧
  (if ((F 1 6) - 1) < a1 then
   Q (some (vi (-1))) (Wd S L F G h)
  else
   C33_28 a1 (Wd S L (am_up F 1 6 ((F 1 6) - 1)) G h) Q))))) : C33_0 a1 (Wd S L F G h) Q := by
  refine pt33 (s' := (8, [some (vr 1), some (vi a1), none], [vi ((F 1 6) - 1), vi 0, vi a1], (Wd S L F G h))) (by decide) [0, 0, 0, 0, 0, 0] rfl ⟨trivial, ⟨Nat.le_of_ble_eq_true rfl, rfl⟩⟩ ?_
  refine wp.cl am_m33 rfl am_m101 6 [vi a1, vi 0, vi ((F 1 6) - 1)] [] rfl (Nat.le_of_ble_eq_true rfl) ⟨(Nat.le_of_ble_eq_true rfl), (Nat.le_of_ble_eq_true rfl)⟩ rfl (Nat.le_of_ble_eq_true rfl) rfl (Nat.le_of_ble_eq_true rfl) (Nat.le_of_ble_eq_true rfl) trivial ?_
  obtain ⟨g1, H⟩ := H
  refine pt101 (s' := (2, [some (vi a1), some (vi 0), some (vi ((F 1 6) - 1))], [vi 0, vi a1], (Wd S L F G h))) (by decide) [0, 0] rfl trivial ?_
  by_cases c2 : a1 < 0
  · rw [if_pos c2] at H
    refine pt101 (s' := (15, [some (vi a1), some (vi 0), some (vi ((F 1 6) - 1))], [vi 0], (Wd S L F G h))) (by decide) [1, 0] rfl ⟨trivial, ⟨⟨g1, (by decide : R32 0)⟩, c2⟩⟩ ?_
    refine wp.fin (v := some (vi 0)) (by decide) am_m101 rfl ⟨_, rfl, Or.inr ⟨rfl, Or.inl rfl⟩, rfl⟩ ?_
    show wp 7 33 (11, [some (vr 1), some (vi a1), none], [vi 0], (Wd S L F G h)) _
    refine pt33 (s' := (15, [some (vr 1), some (vi a1), none], [vi (-1)], (Wd S L F G h))) (by decide) [0, 0] rfl ⟨trivial, ⟨(by decide : R32 0), (by decide : (0 : Int) = (0 : Int))⟩⟩ ?_
    exact wp.fin (v := some (vi (-1))) (by decide) am_m33 rfl ⟨_, rfl, Or.inl rfl, rfl⟩ H
  · rw [if_neg c2] at H
    obtain ⟨g3, H⟩ := H
    refine pt101 (s' := (7, [some (vi a1), some (vi 0), some (vi ((F 1 6) - 1))], [vi ((F 1 6) - 1), vi a1], (Wd S L F G h))) (by decide) [0, 0, 0] rfl ⟨trivial, ⟨⟨g1, (by decide : R32 0)⟩, c2⟩⟩ ?_
    by_cases c4 : ((F 1 6) - 1) < a1
    · rw [if_pos c4] at H
      refine pt101 (s' := (15, [some (vi a1), some (vi 0), some (vi ((F 1 6) - 1))], [vi 0], (Wd S L F G h))) (by decide) [1, 0] rfl ⟨trivial, ⟨⟨g1, g3⟩, c4⟩⟩ ?_
      refine wp.fin (v := some (vi 0)) (by decide) am_m101 rfl ⟨_, rfl, Or.inr ⟨rfl, Or.inl rfl⟩, rfl⟩ ?_
      show wp 7 33 (11, [some (vr 1), some (vi a1), none], [vi 0], (Wd S L F G h)) _
      refine pt33 (s' := (15, [some (vr 1), some (vi a1), none], [vi (-1)], (Wd S L F G h))) (by decide) [0, 0] rfl ⟨trivial, ⟨(by decide : R32 0), (by decide : (0 : Int) = (0 : Int))⟩⟩ ?_
      exact wp.fin (v := some (vi (-1))) (by decide) am_m33 rfl ⟨_, rfl, Or.inl rfl, rfl⟩ H
    · rw [if_neg c4] at H
      refine pt101 (s' := (15, [some (vi a1), some (vi 0), some (vi ((F 1 6) - 1))], [vi 1], (Wd S L F G h))) (by decide) [0, 0, 0] rfl ⟨trivial, ⟨⟨g1, g3⟩, c4⟩⟩ ?_
      refine wp.fin (v := some (vi 1)) (by decide) am_m101 rfl ⟨_, rfl, Or.inr ⟨rfl, Or.inr rfl⟩, rfl⟩ ?_
      show wp 7 33 (11, [some (vr 1), some (vi a1), none], [vi 1], (Wd S L F G h)) _
      refine pt33 (s' := (28, [some (vr 1), some (vi a1), some (vi a1)], [], (Wd S L (am_up F 1 6 ((F 1 6) - 1)) G h))) (by decide) [1, 0, 0, 0, 0, 0, 0, 0, 0] rfl ⟨⟨⟨trivial, ⟨(by decide : R32 1), (by decide : ¬ (1 : Int) = (0 : Int))⟩⟩, ⟨Nat.le_of_ble_eq_true rfl, rfl⟩⟩, ⟨Nat.le_of_ble_eq_true rfl, rfl, fun h => by cases h⟩⟩ ?_
      exact wp.weak (a := [some (vr 1), none, some (vi a1)]) ⟨rfl, rfl, trivial⟩ H
set_option maxRecDepth 100000 in
set_option maxHeartbeats 4000000 in
theorem T33_28 {S L : Nat} {F G : Nat → Nat → Int} {h : Nat → Nat → Option Nat} (hh : RfH h) {x2 : Int}  {Q : Option V2 → W2 → Prop}
    (H : (R32 x2 ∧
 R32 (F 1 6) ∧
 (if (F 1 6) ≤ x2 then
  Q (some (vi (F 1 6))) (Wd S L F G h)
 else
  ((0 ≤ (x2 + 1) ∧ (x2 + 1) < 12) ∧
  (0 ≤ x2 ∧ x2 < 12) ∧
  C33_28 (x2 + 1) (Wd S L (am_up (am_up F 6 x2.toNat (F 6 (x2 + 1).toNat)) 7 x2.toNat (F 7 (x2 + 1).toNat)) G h) Q)))) : C33_28 x2 (Wd S L F G h) Q := by
  obtain ⟨g1, H⟩ := H
  obtain ⟨g2, H⟩ := H
  refine pt33 (s' := (33, [some (vr 1), none, some (vi x2)], [vi (F 1 6), vi x2], (Wd S L F G h))) (by decide) [0, 0, 0] rfl ⟨trivial, ⟨Nat.le_of_ble_eq_true rfl, rfl⟩⟩ ?_
  by_cases c3 : (F 1 6) ≤ x2
  · rw [if_pos c3] at H
    refine pt33 (s' := (74, [some (vr 1), none, some (vi x2)], [vi (F 1 6)], (Wd S L F G h))) (by decide) [1, 0, 0] rfl ⟨⟨trivial, ⟨⟨g1, g2⟩, c3⟩⟩, ⟨Nat.le_of_ble_eq_true rfl, rfl⟩⟩ ?_
    exact wp.fin (v := some (vi (F 1 6))) (by decide) am_m33 rfl ⟨_, rfl, Or.inl rfl, rfl⟩ H
  · rw [if_neg c3] at H
    obtain ⟨g4, H⟩ := H
    obtain ⟨g5, H⟩ := H
    refine pt33 (s' := (28, [some (vr 1), none, some (vi (x2 + 1))], [], (Wd S L (am_up (am_up F 6 x2.toNat (F 6 (x2 + 1).toNat)) 7 x2.toNat (F 7 (x2 + 1).toNat)) G h))) (by decide) [0, 0, 6, 0, 0, 6, 0, 0, 0, 0, 0, 0, 7, 0, 0, 7, 0, 0, 0, 0, 0, 0, 0] rfl ⟨⟨⟨⟨⟨⟨⟨⟨⟨trivial, ⟨⟨g1, g2⟩, c3⟩⟩, ⟨Nat.le_of_ble_eq_true rfl, rfl, hh _ _ _ rfl⟩⟩, ⟨Nat.le_of_ble_eq_true rfl, rfl, hh _ _ _ rfl⟩⟩, (ix ⟨Nat.le_of_ble_eq_true rfl, rfl⟩ g4)⟩, (ix ⟨Nat.le_of_ble_eq_true rfl, rfl⟩ g5)⟩, ⟨Nat.le_of_ble_eq_true rfl, rfl, hh _ _ _ rfl⟩⟩, ⟨Nat.le_of_ble_eq_true rfl, rfl, hh _ _ _ rfl⟩⟩, (ix ⟨Nat.le_of_ble_eq_true rfl, rfl⟩ g4)⟩, (ix ⟨Nat.le_of_ble_eq_true rfl, rfl⟩ g5)⟩ ?_
    exact wp.weak (a := [some (vr 1), none, some (vi (x2 + 1))]) ⟨rfl, rfl, trivial⟩ H
set_option maxRecDepth 100000 in
set_option maxHeartbeats 4000000 in
theorem T34_0 {S L : Nat} {F G : Nat → Nat → Int} {h : Nat → Nat → Option Nat} (hh : RfH h) {a1 : Int} {a2 : Int}  {Q : Option V2 → W2 → Prop}
    (H : (R32 a1 ∧
 (if a1 < 1 then
  Q (some (vi (-1))) (Wd S L F G h)
 else
  (if 12 < a1 then
   Q (some (vi (-1))) (Wd S L F G h)
  else
   (R32 a2 ∧
   (if a2 < 1 then
    Q (some (vi (-1))) (Wd S L F G h)
   else
    (if 2 < a2 then
     Q (some (vi (-1))) (Wd S L F G h)
    else
     (R32 (F 1 7) ∧
     (if (F 1 7) = a1 then
      (R32 (F 1 8) ∧
      (if (F 1 8) = a2 then
       Q (some (vi (-2))) (Wd S L F G h)
      else
       C27_0 (F 1 6) (Wd S L F G h) (fun v w1 => ∃ (v11 : Int), v = some (vi v11) ∧ w1 = (Wd S L F G h) ∧
        C29_0 v11 a1 a2 (Wd S L F G h) (fun v w1 => ∃ (v12 : Int), v = some (vi v12) ∧ w1 = (Wd S L F G h) ∧
         (R32 v12 ∧
         (if v12 ≤ 100 then
          Q (some (vi ((10 * (F 1 7)) + (F 1 8)))) (Wd S L (am_up (am_up F 1 7 a1) 1 8 a2) G h)
         else
          Q (some (vi (-3))) (Wd S L F G h)))))))
     else
      C27_0 (F 1 6) (Wd S L F G h) (fun v w1 => ∃ (v15 : Int), v = some (vi v15) ∧ w1 = (Wd S L F G h) ∧
       C29_0 v15 a1 a2 (Wd S L F G h) (fun v w1 => ∃ (v16 : Int), v = some (vi v16) ∧ w1 = (Wd S L F G h) ∧
        (R32 v16 ∧
        (if v16 ≤ 100 then
         Q (some (vi ((10 * (F 1 7)) + (F 1 8)))) (Wd S L (am_up (am_up F 1 7 a1) 1 8 a2) G h)
        else
         Q (some (vi (-3))) (Wd S L F G h)))))))))))))) : C34_0 a1 a2 (Wd S L F G h) Q := by
  refine pt34 (s' := (4, [some (vr 1), some (vi a1), some (vi a2), none], [vi 12, vi 1, vi a1], (Wd S L F G h))) (by decide) [0, 0, 0] rfl trivial ?_
  refine wp.cl am_m34 rfl am_m101 6 [vi a1, vi 1, vi 12] [] rfl (Nat.le_of_ble_eq_true rfl) ⟨(Nat.le_of_ble_eq_true rfl), (Nat.le_of_ble_eq_true rfl)⟩ rfl (Nat.le_of_ble_eq_true rfl) rfl (Nat.le_of_ble_eq_true rfl) (Nat.le_of_ble_eq_true rfl) trivial ?_
  obtain ⟨g1, H⟩ := H
  refine pt101 (s' := (2, [some (vi a1), some (vi 1), some (vi 12)], [vi 1, vi a1], (Wd S L F G h))) (by decide) [0, 0] rfl trivial ?_
  by_cases c2 : a1 < 1
  · rw [if_pos c2] at H
    refine pt101 (s' := (15, [some (vi a1), some (vi 1), some (vi 12)], [vi 0], (Wd S L F G h))) (by decide) [1, 0] rfl ⟨trivial, ⟨⟨g1, (by decide : R32 1)⟩, c2⟩⟩ ?_
    refine wp.fin (v := some (vi 0)) (by decide) am_m101 rfl ⟨_, rfl, Or.inr ⟨rfl, Or.inl rfl⟩, rfl⟩ ?_
    show wp 8 34 (7, [some (vr 1), some (vi a1), some (vi a2), none], [vi 0], (Wd S L F G h)) _
    refine pt34 (s' := (20, [some (vr 1), some (vi a1), some (vi a2), none], [vi (-1)], (Wd S L F G h))) (by decide) [1, 0] rfl ⟨trivial, ⟨(by decide : R32 0), (by decide : (0 : Int) = (0 : Int))⟩⟩ ?_
    exact wp.fin (v := some (vi (-1))) (by decide) am_m34 rfl ⟨_, rfl, Or.inl rfl, rfl⟩ H
  · rw [if_neg c2] at H
    refine pt101 (s' := (7, [some (vi a1), some (vi 1), some (vi 12)], [vi 12, vi a1], (Wd S L F G h))) (by decide) [0, 0, 0] rfl ⟨trivial, ⟨⟨g1, (by decide : R32 1)⟩, c2⟩⟩ ?_
    by_cases c3 : 12 < a1
    · rw [if_pos c3] at H
      refine pt101 (s' := (15, [some (vi a1), some (vi 1), some (vi 12)], [vi 0], (Wd S L F G h))) (by decide) [1, 0] rfl ⟨trivial, ⟨⟨g1, (by decide : R32 12)⟩, c3⟩⟩ ?_
      refine wp.fin (v := some (vi 0)) (by decide) am_m101 rfl ⟨_, rfl, Or.inr ⟨rfl, Or.inl rfl⟩, rfl⟩ ?_
      show wp 8 34 (7, [some (vr 1), some (vi a1), some (vi a2), none], [vi 0], (Wd S L F G h)) _
      refine pt34 (s' := (20, [some (vr 1), some (vi a1), some (vi a2), none], [vi (-1)], (Wd S L F G h))) (by decide) [1, 0] rfl ⟨trivial, ⟨(by decide : R32 0), (by decide : (0 : Int) = (0 : Int))⟩⟩ ?_
      exact wp.fin (v := some (vi (-1))) (by decide) am_m34 rfl ⟨_, rfl, Or.inl rfl, rfl⟩ H
    · rw [if_neg c3] at H
      refine pt101 (s' := (15, [some (vi a1), some (vi 1), some (vi 12)], [vi 1], (Wd S L F G h))) (by decide) [0, 0, 0] rfl ⟨trivial, ⟨⟨g1, (by decide : R32 12)⟩, c3⟩⟩ ?_
      refine wp.fin (v := some (vi 1)) (by decide) am_m101 rfl ⟨_, rfl, Or.inr ⟨rfl, Or.inr rfl⟩, rfl⟩ ?_
      show wp 8 34 (7, [some (vr 1), some (vi a1), some (vi a2), none], [vi 1], (Wd S L F G h)) _
      refine pt34 (s' := (13, [some (vr 1), some (vi a1), some (vi a2), none], [vi 2, vi 1, vi a2], (Wd S L F G h))) (by decide) [0, 0, 0, 0] rfl ⟨trivial, ⟨(by decide : R32 1), (by decide : ¬ (1 : Int) = (0 : Int))⟩⟩ ?_
      refine wp.cl am_m34 rfl am_m101 6 [vi a2, vi 1, vi 2] [] rfl (Nat.le_of_ble_eq_true rfl) ⟨(Nat.le_of_ble_eq_true rfl), (Nat.le_of_ble_eq_true rfl)⟩ rfl (Nat.le_of_ble_eq_true rfl) rfl (Nat.le_of_ble_eq_true rfl) (Nat.le_of_ble_eq_true rfl) trivial ?_
      obtain ⟨g4, H⟩ := H
      refine pt101 (s' := (2, [some (vi a2), some (vi 1), some (vi 2)], [vi 1, vi a2], (Wd S L F G h))) (by decide) [0, 0] rfl trivial ?_
      by_cases c5 : a2 < 1
      · rw [if_pos c5] at H
        refine pt101 (s' := (15, [some (vi a2), some (vi 1), some (vi 2)], [vi 0], (Wd S L F G h))) (by decide) [1, 0] rfl ⟨trivial, ⟨⟨g4, (by decide : R32 1)⟩, c5⟩⟩ ?_
        refine wp.fin (v := some (vi 0)) (by decide) am_m101 rfl ⟨_, rfl, Or.inr ⟨rfl, Or.inl rfl⟩, rfl⟩ ?_
        show wp 8 34 (16, [some (vr 1), some (vi a1), some (vi a2), none], [vi 0], (Wd S L F G h)) _
        refine pt34 (s' := (20, [some (vr 1), some (vi a1), some (vi a2), none], [vi (-1)], (Wd S L F G h))) (by decide) [0, 0] rfl ⟨trivial, ⟨(by decide : R32 0), (by decide : (0 : Int) = (0 : Int))⟩⟩ ?_
        exact wp.fin (v := some (vi (-1))) (by decide) am_m34 rfl ⟨_, rfl, Or.inl rfl, rfl⟩ H
      · rw [if_neg c5] at H
        refine pt101 (s' := (7, [some (vi a2), some (vi 1), some (vi 2)], [vi 2, vi a2], (Wd S L F G h))) (by decide) [0, 0, 0] rfl ⟨trivial, ⟨⟨g4, (by decide : R32 1)⟩, c5⟩⟩ ?_
        by_cases c6 : 2 < a2
        · rw [if_pos c6] at H
          refine pt101 (s' := (15, [some (vi a2), some (vi 1), some (vi 2)], [vi 0], (Wd S L F G h))) (by decide) [1, 0] rfl ⟨trivial, ⟨⟨g4, (by decide : R32 2)⟩, c6⟩⟩ ?_
          refine wp.fin (v := some (vi 0)) (by decide) am_m101 rfl ⟨_, rfl, Or.inr ⟨rfl, Or.inl rfl⟩, rfl⟩ ?_
          show wp 8 34 (16, [some (vr 1), some (vi a1), some (vi a2), none], [vi 0], (Wd S L F G h)) _
          refine pt34 (s' := (20, [some (vr 1), some (vi a1), some (vi a2), none], [vi (-1)], (Wd S L F G h))) (by decide) [0, 0] rfl ⟨trivial, ⟨(by decide : R32 0), (by decide : (0 : Int) = (0 : Int))⟩⟩ ?_
          exact wp.fin (v := some (vi (-1))) (by decide) am_m34 rfl ⟨_, rfl, Or.inl rfl, rfl⟩ H
        · rw [if_neg c6] at H
          refine pt101 (s' := (15, [some (vi a2), some (vi 1), some (vi 2)], [vi 1], (Wd S L F G h))) (by decide) [0, 0, 0] rfl ⟨trivial, ⟨⟨g4, (by decide : R32 2)⟩, c6⟩⟩ ?_
          refine wp.fin (v := some (vi 1)) (by decide) am_m101 rfl ⟨_, rfl, Or.inr ⟨rfl, Or.inr rfl⟩, rfl⟩ ?_
          show wp 8 34 (16, [some (vr 1), some (vi a1), some (vi a2), none], [vi 1], (Wd S L F G h)) _
          obtain ⟨g7, H⟩ := H
          refine pt34 (s' := (26, [some (vr 1), some (vi a1), some (vi a2), none], [vi a1, vi (F 1 7)], (Wd S L F G h))) (by decide) [1, 0, 0, 0] rfl ⟨⟨trivial, ⟨(by decide : R32 1), (by decide : ¬ (1 : Int) = (0 : Int))⟩⟩, ⟨Nat.le_of_ble_eq_true rfl, rfl⟩⟩ ?_
          by_cases c8 : (F 1 7) = a1
          · rw [if_pos c8] at H
            obtain ⟨g9, H⟩ := H
            refine pt34 (s' := (34, [some (vr 1), some (vi a1), some (vi a2), none], [vi a2, vi (F 1 8)], (Wd S L F G h))) (by decide) [0, 0, 0, 0] rfl ⟨⟨trivial, ⟨⟨g7, g1⟩, c8⟩⟩, ⟨Nat.le_of_ble_eq_true rfl, rfl⟩⟩ ?_
            by_cases c10 : (F 1 8) = a2
            · rw [if_pos c10] at H
              refine pt34 (s' := (39, [some (vr 1), some (vi a1), some (vi a2), none], [vi (-2)], (Wd S L F G h))) (by decide) [0, 0] rfl ⟨trivial, ⟨⟨g9, g4⟩, c10⟩⟩ ?_
              exact wp.fin (v := some (vi (-2))) (by decide) am_m34 rfl ⟨_, rfl, Or.inl rfl, rfl⟩ H
            · rw [if_neg c10] at H
              refine pt34 (s' := (45, [some (vr 1), some (vi a1), some (vi a2), none], [vi (F 1 6), vr 1], (Wd S L F G h))) (by decide) [1, 0, 0, 0] rfl ⟨⟨trivial, ⟨⟨g9, g4⟩, c10⟩⟩, ⟨Nat.le_of_ble_eq_true rfl, rfl⟩⟩ ?_
              refine wp.cl am_m34 rfl am_m27 6 [vr 1, vi (F 1 6)] [] rfl (Nat.le_of_ble_eq_true rfl) ⟨(Nat.le_of_ble_eq_true rfl), (Nat.le_of_ble_eq_true rfl)⟩ rfl (Nat.le_of_ble_eq_true rfl) rfl (Nat.le_of_ble_eq_true rfl) (Nat.le_of_ble_eq_true rfl) ⟨_, _, rfl, Nat.le_of_ble_eq_true rfl, rfl⟩ ?_
              refine wp.mono H ?_
              rintro v w1 ⟨v11, rfl, rfl, H⟩
              show wp 8 34 (48, [some (vr 1), some (vi a1), some (vi a2), none], [vi v11], (Wd S L F G h)) _
              refine pt34 (s' := (50, [some (vr 1), some (vi a1), some (vi a2), none], [vi a2, vi a1, vi v11], (Wd S L F G h))) (by decide) [0, 0] rfl trivial ?_
              refine wp.cl am_m34 rfl am_m29 7 [vi v11, vi a1, vi a2] [] rfl (Nat.le_of_ble_eq_true rfl) ⟨(Nat.le_of_ble_eq_true rfl), (Nat.le_of_ble_eq_true rfl)⟩ rfl (Nat.le_of_ble_eq_true rfl) rfl (Nat.le_of_ble_eq_true rfl) (Nat.le_of_ble_eq_true rfl) trivial ?_
              refine wp.mono H ?_
              rintro v w1 ⟨v12, rfl, rfl, H⟩
              show wp 8 34 (53, [some (vr 1), some (vi a1), some (vi a2), none], [vi v12], (Wd S L F G h)) _
              obtain ⟨g13, H⟩ := H
              refine pt34 (s' := (55, [some (vr 1), some (vi a1), some (vi a2), none], [vi 100, vi v12], (Wd S L F G h))) (by decide) [0] rfl trivial ?_
              by_cases c14 : v12 ≤ 100
              · rw [if_pos c14] at H
                refine pt34 (s' := (85, [some (vr 1), some (vi a1), some (vi a2), some (vi ((10 * (F 1 7)) + (F 1 8)))], [vi ((10 * (F 1 7)) + (F 1 8))], (Wd S L (am_up (am_up F 1 7 a1) 1 8 a2) G h))) (by decide) [1, 0, 0, 0, 0, 0, 0, 0, 0, 0, 0, 0, 0, 0, 0, 0] rfl ⟨⟨⟨⟨⟨trivial, ⟨⟨g13, (by decide : R32 100)⟩, c14⟩⟩, ⟨Nat.le_of_ble_eq_true rfl, rfl⟩⟩, ⟨Nat.le_of_ble_eq_true rfl, rfl⟩⟩, ⟨Nat.le_of_ble_eq_true rfl, rfl, fun h => by cases h⟩⟩, ⟨Nat.le_of_ble_eq_true rfl, rfl, fun h => by cases h⟩⟩ ?_
                exact wp.fin (v := some (vi ((10 * (F 1 7)) + (F 1 8)))) (by decide) am_m34 rfl ⟨_, rfl, Or.inl rfl, rfl⟩ H
              · rw [if_neg c14] at H
                refine pt34 (s' := (60, [some (vr 1), some (vi a1), some (vi a2), none], [vi (-3)], (Wd S L F G h))) (by decide) [0, 0] rfl ⟨trivial, ⟨⟨g13, (by decide : R32 100)⟩, c14⟩⟩ ?_
                exact wp.fin (v := some (vi (-3))) (by decide) am_m34 rfl ⟨_, rfl, Or.inl rfl, rfl⟩ H
          · rw [if_neg c8] at H
            refine pt34 (s' := (45, [some (vr 1), some (vi a1), some (vi a2), none], [vi (F 1 6), vr 1], (Wd S L F G h))) (by decide) [1, 0, 0, 0] rfl ⟨⟨trivial, ⟨⟨g7, g1⟩, c8⟩⟩, ⟨Nat.le_of_ble_eq_true rfl, rfl⟩⟩ ?_
            refine wp.cl am_m34 rfl am_m27 6 [vr 1, vi (F 1 6)] [] rfl (Nat.le_of_ble_eq_true rfl) ⟨(Nat.le_of_ble_eq_true rfl), (Nat.le_of_ble_eq_true rfl)⟩ rfl (Nat.le_of_ble_eq_true rfl) rfl (Nat.le_of_ble_eq_true rfl) (Nat.le_of_ble_eq_true rfl) ⟨_, _, rfl, Nat.le_of_ble_eq_true rfl, rfl⟩ ?_
            refine wp.mono H ?_
            rintro v w1 ⟨v15, rfl, rfl, H⟩
            show wp 8 34 (48, [some (vr 1), some (vi a1), some (vi a2), none], [vi v15], (Wd S L F G h)) _
            refine pt34 (s' := (50, [some (vr 1), some (vi a1), some (vi a2), none], [vi a2, vi a1, vi v15], (Wd S L F G h))) (by decide) [0, 0] rfl trivial ?_
            refine wp.cl am_m34 rfl am_m29 7 [vi v15, vi a1, vi a2] [] rfl (Nat.le_of_ble_eq_true rfl) ⟨(Nat.le_of_ble_eq_true rfl), (Nat.le_of_ble_eq_true rfl)⟩ rfl (Nat.le_of_ble_eq_true rfl) rfl (Nat.le_of_ble_eq_true rfl) (Nat.le_of_ble_eq_true rfl) trivial ?_
            refine wp.mono H ?_
            rintro v w1 ⟨v16, rfl, rfl, H⟩
            show wp 8 34 (53, [some (vr 1), some (vi a1), some (vi a2), none], [vi v16], (Wd S L F G h)) _
            obtain ⟨g17, H⟩ := H
            refine pt34 (s' := (55, [some (vr 1), some (vi a1), some (vi a2), none], [vi 100, vi v16], (Wd S L F G h))) (by decide) [0] rfl trivial ?_
            by_cases c18 : v16 ≤ 100
            · rw [if_pos c18] at H
              refine pt34 (s' := (85, [some (vr 1), some (vi a1), some (vi a2), some (vi ((10 * (F 1 7)) + (F 1 8)))], [vi ((10 * (F 1 7)) + (F 1 8))], (Wd S L (am_up (am_up F 1 7 a1) 1 8 a2) G h))) (by decide) [1, 0, 0, 0, 0, 0, 0, 0, 0, 0, 0, 0, 0, 0, 0, 0] rfl ⟨⟨⟨⟨⟨trivial, ⟨⟨g17, (by decide : R32 100)⟩, c18⟩⟩, ⟨Nat.le_of_ble_eq_true rfl, rfl⟩⟩, ⟨Nat.le_of_ble_eq_true rfl, rfl⟩⟩, ⟨Nat.le_of_ble_eq_true rfl, rfl, fun h => by cases h⟩⟩, ⟨Nat.le_of_ble_eq_true rfl, rfl, fun h => by cases h⟩⟩ ?_
              exact wp.fin (v := some (vi ((10 * (F 1 7)) + (F 1 8)))) (by decide) am_m34 rfl ⟨_, rfl, Or.inl rfl, rfl⟩ H
            · rw [if_neg c18] at H
              refine pt34 (s' := (60, [some (vr 1), some (vi a1), some (vi a2), none], [vi (-3)], (Wd S L F G h))) (by decide) [0, 0] rfl ⟨trivial, ⟨⟨g17, (by decide : R32 100)⟩, c18⟩⟩ ?_
              exact wp.fin (v := some (vi (-3))) (by decide) am_m34 rfl ⟨_, rfl, Or.inl rfl, rfl⟩ H
set_option maxRecDepth 100000 in
set_option maxHeartbeats 4000000 in
theorem T35_0 {S L : Nat} {F G : Nat → Nat → Int} {h : Nat → Nat → Option Nat} (hh : RfH h) {a1 : Int}  {Q : Option V2 → W2 → Prop}
    (H : (R32 a1 ∧
 (if a1 < 0 then
  Q (some (vi (-1))) (Wd S L F G h)
 else
  (if 3 < a1 then
   Q (some (vi (-1))) (Wd S L F G h)
  else
   (R32 (F 1 9) ∧
   (if (F 1 9) = a1 then
    Q (some (vi (-2))) (Wd S L F G h)
   else
    Q (some (vi (F 1 9))) (Wd S L (am_up F 1 9 a1) G h))))))) : C35_0 a1 (Wd S L F G h) Q := by
  refine pt35 (s' := (3, [some (vr 1), some (vi a1), none], [vi 3, vi 0, vi a1], (Wd S L F G h))) (by decide) [0, 0, 0] rfl trivial ?_
  refine wp.cl am_m35 rfl am_m101 6 [vi a1, vi 0, vi 3] [] rfl (Nat.le_of_ble_eq_true rfl) ⟨(Nat.le_of_ble_eq_true rfl), (Nat.le_of_ble_eq_true rfl)⟩ rfl (Nat.le_of_ble_eq_true rfl) rfl (Nat.le_of_ble_eq_true rfl) (Nat.le_of_ble_eq_true rfl) trivial ?_
  obtain ⟨g1, H⟩ := H
  refine pt101 (s' := (2, [some (vi a1), some (vi 0), some (vi 3)], [vi 0, vi a1], (Wd S L F G h))) (by decide) [0, 0] rfl trivial ?_
  by_cases c2 : a1 < 0
  · rw [if_pos c2] at H
    refine pt101 (s' := (15, [some (vi a1), some (vi 0), some (vi 3)], [vi 0], (Wd S L F G h))) (by decide) [1, 0] rfl ⟨trivial, ⟨⟨g1, (by decide : R32 0)⟩, c2⟩⟩ ?_
    refine wp.fin (v := some (vi 0)) (by decide) am_m101 rfl ⟨_, rfl, Or.inr ⟨rfl, Or.inl rfl⟩, rfl⟩ ?_
    show wp 7 35 (6, [some (vr 1), some (vi a1), none], [vi 0], (Wd S L F G h)) _
    refine pt35 (s' := (10, [some (vr 1), some (vi a1), none], [vi (-1)], (Wd S L F G h))) (by decide) [0, 0] rfl ⟨trivial, ⟨(by decide : R32 0), (by decide : (0 : Int) = (0 : Int))⟩⟩ ?_
    exact wp.fin (v := some (vi (-1))) (by decide) am_m35 rfl ⟨_, rfl, Or.inl rfl, rfl⟩ H
  · rw [if_neg c2] at H
    refine pt101 (s' := (7, [some (vi a1), some (vi 0), some (vi 3)], [vi 3, vi a1], (Wd S L F G h))) (by decide) [0, 0, 0] rfl ⟨trivial, ⟨⟨g1, (by decide : R32 0)⟩, c2⟩⟩ ?_
    by_cases c3 : 3 < a1
    · rw [if_pos c3] at H
      refine pt101 (s' := (15, [some (vi a1), some (vi 0), some (vi 3)], [vi 0], (Wd S L F G h))) (by decide) [1, 0] rfl ⟨trivial, ⟨⟨g1, (by decide : R32 3)⟩, c3⟩⟩ ?_
      refine wp.fin (v := some (vi 0)) (by decide) am_m101 rfl ⟨_, rfl, Or.inr ⟨rfl, Or.inl rfl⟩, rfl⟩ ?_
      show wp 7 35 (6, [some (vr 1), some (vi a1), none], [vi 0], (Wd S L F G h)) _
      refine pt35 (s' := (10, [some (vr 1), some (vi a1), none], [vi (-1)], (Wd S L F G h))) (by decide) [0, 0] rfl ⟨trivial, ⟨(by decide : R32 0), (by decide : (0 : Int) = (0 : Int))⟩⟩ ?_
      exact wp.fin (v := some (vi (-1))) (by decide) am_m35 rfl ⟨_, rfl, Or.inl rfl, rfl⟩ H
    · rw [if_neg c3] at H
      refine pt101 (s' := (15, [some (vi a1), some (vi 0), some (vi 3)], [vi 1], (Wd S L F G h))) (by decide) [0, 0, 0] rfl ⟨trivial, ⟨⟨g1, (by decide : R32 3)⟩, c3⟩⟩ ?_
      refine wp.fin (v := some (vi 1)) (by decide) am_m101 rfl ⟨_, rfl, Or.inr ⟨rfl, Or.inr rfl⟩, rfl⟩ ?_
      show wp 7 35 (6, [some (vr 1), some (vi a1), none], [vi 1], (Wd S L F G h)) _
      obtain ⟨g4, H⟩ := H
      refine pt35 (s' := (16, [some (vr 1), some (vi a1), none], [vi a1, vi (F 1 9)], (Wd S L F G h))) (by decide) [1, 0, 0, 0] rfl ⟨⟨trivial, ⟨(by decide : R32 1), (by decide : ¬ (1 : Int) = (0 : Int))⟩⟩, ⟨Nat.le_of_ble_eq_true rfl, rfl⟩⟩ ?_
      by_cases c5 : (F 1 9) = a1
      · rw [if_pos c5] at H
        refine pt35 (s' := (21, [some (vr 1), some (vi a1), none], [vi (-2)], (Wd S L F G h))) (by decide) [0, 0] rfl ⟨trivial, ⟨⟨g4, g1⟩, c5⟩⟩ ?_
        exact wp.fin (v := some (vi (-2))) (by decide) am_m35 rfl ⟨_, rfl, Or.inl rfl, rfl⟩ H
      · rw [if_neg c5] at H
        refine pt35 (s' := (33, [some (vr 1), some (vi a1), some (vi (F 1 9))], [vi (F 1 9)], (Wd S L (am_up F 1 9 a1) G h))) (by decide) [1, 0, 0, 0, 0, 0, 0, 0] rfl ⟨⟨⟨trivial, ⟨⟨g4, g1⟩, c5⟩⟩, ⟨Nat.le_of_ble_eq_true rfl, rfl⟩⟩, ⟨Nat.le_of_ble_eq_true rfl, rfl, fun h => by cases h⟩⟩ ?_
        exact wp.fin (v := some (vi (F 1 9))) (by decide) am_m35 rfl ⟨_, rfl, Or.inl rfl, rfl⟩ H
set_option maxRecDepth 100000 in
set_option maxHeartbeats 4000000 in
theorem T36_0 {S L : Nat} {F G : Nat → Nat → Int} {h : Nat → Nat → Option Nat} (hh : RfH h) {a3 : Int}  {Q : Option V2 → W2 → Prop}
    (H : C36_6 a3 0 0 (Wd S L F G h) Q) : C36_0 a3 (Wd S L F G h) Q := by
  refine pt36 (s' := (6, [some (vr 1), some (vr 286), some (vr 287), some (vi a3), some (vi 0), some (vi 0)], [], (Wd S L F G h))) (by decide) [0, 0, 0, 0] rfl trivial ?_
  exact wp.weak (a := [some (vr 1), some (vr 286), some (vr 287), some (vi a3), some (vi 0), some (vi 0)]) ⟨rfl, rfl, rfl, rfl, rfl, rfl, trivial⟩ H
set_option maxRecDepth 100000 in
set_option maxHeartbeats 4000000 in
theorem T36_6 {S L : Nat} {F G : Nat → Nat → Int} {h : Nat → Nat → Option Nat} (hh : RfH h) {x3 : Int} {x4 : Int} {x5 : Int}  {Q : Option V2 → W2 → Prop}
    (H : (R32 x5 ∧
 R32 x3 ∧
 (if x3 ≤ x5 then
  C29_0 x4 (F 1 7) (F 1 8) (Wd S L F G h) (fun v w1 => ∃ (v4 : Int), v = some (vi v4) ∧ w1 = (Wd S L F G h) ∧
   (R32 v4 ∧
   (if v4 ≤ 100 then
    (((0 : Int) ≤ 0 ∧ (0 : Int) ≤ 0 ∧ (0 : Int) ≤ x3 ∧ 0 + x3 ≤ 12 ∧ 0 + x3 ≤ 12) ∧
    ∀ F8 : Nat → Nat → Int, (am_row F 6 (va_cpy (F 286) (F 6) 0 0 x3.toNat)) = F8 →
    ∀ F10 : Nat → Nat → Int, (am_row F8 7 (va_cpy (F8 287) (F8 7) 0 0 x3.toNat)) = F10 →
    Q (some (vi x3)) (Wd S L (am_up F10 1 6 x3) G h))
   else
    Q (some (vi (-3))) (Wd S L F G h))))
 else
  ((0 ≤ x5 ∧ x5 < 12) ∧
  C36_6 x3 (x4 + (F 287 x5.toNat)) (x5 + 1) (Wd S L F G h) Q)))) : C36_6 x3 x4 x5 (Wd S L F G h) Q := by
  obtain ⟨g1, H⟩ := H
  obtain ⟨g2, H⟩ := H
  refine pt36 (s' := (9, [some (vr 1), some (vr 286), some (vr 287), some (vi x3), some (vi x4), some (vi x5)], [vi x3, vi x5], (Wd S L F G h))) (by decide) [0, 0] rfl trivial ?_
  by_cases c3 : x3 ≤ x5
  · rw [if_pos c3] at H
    refine pt36 (s' := (30, [some (vr 1), some (vr 286), some (vr 287), some (vi x3), some (vi x4), some (vi x5)], [vi x4, vr 1], (Wd S L F G h))) (by decide) [1, 0, 0] rfl ⟨trivial, ⟨⟨g1, g2⟩, c3⟩⟩ ?_
    refine wp.cl am_m36 rfl am_m28 8 [vr 1, vi x4] [] rfl (Nat.le_of_ble_eq_true rfl) ⟨(Nat.le_of_ble_eq_true rfl), (Nat.le_of_ble_eq_true rfl)⟩ rfl (Nat.le_of_ble_eq_true rfl) rfl (Nat.le_of_ble_eq_true rfl) (Nat.le_of_ble_eq_true rfl) ⟨_, _, rfl, Nat.le_of_ble_eq_true rfl, rfl⟩ ?_
    refine pt28 (s' := (9, [some (vr 1), some (vi x4)], [vi (F 1 8), vi (F 1 7), vi x4], (Wd S L F G h))) (by decide) [0, 0, 0, 0, 0] rfl ⟨⟨trivial, ⟨Nat.le_of_ble_eq_true rfl, rfl⟩⟩, ⟨Nat.le_of_ble_eq_true rfl, rfl⟩⟩ ?_
    refine wp.cl am_m28 rfl am_m29 7 [vi x4, vi (F 1 7), vi (F 1 8)] [] rfl (Nat.le_of_ble_eq_true rfl) ⟨(Nat.le_of_ble_eq_true rfl), (Nat.le_of_ble_eq_true rfl)⟩ rfl (Nat.le_of_ble_eq_true rfl) rfl (Nat.le_of_ble_eq_true rfl) (Nat.le_of_ble_eq_true rfl) trivial ?_
    refine wp.mono H ?_
    rintro v w1 ⟨v4, rfl, rfl, H⟩
    show wp 8 28 (12, [some (vr 1), some (vi x4)], [vi v4], (Wd S L F G h)) _
    refine wp.fin (v := some (vi v4)) (by decide) am_m28 rfl ⟨_, rfl, Or.inl rfl, rfl⟩ ?_
    show wp 9 36 (33, [some (vr 1), some (vr 286), some (vr 287), some (vi x3), some (vi x4), some (vi x5)], [vi v4], (Wd S L F G h)) _
    obtain ⟨g5, H⟩ := H
    refine pt36 (s' := (35, [some (vr 1), some (vr 286), some (vr 287), some (vi x3), some (vi x4), some (vi x5)], [vi 100, vi v4], (Wd S L F G h))) (by decide) [0] rfl trivial ?_
    by_cases c6 : v4 ≤ 100
    · rw [if_pos c6] at H
      obtain ⟨g7, H⟩ := H
      refine pt36 (s' := (52, [some (vr 1), some (vr 286), some (vr 287), some (vi x3), some (vi x4), some (vi x5)], [], (Wd S L (am_row F 6 (va_cpy (F 286) (F 6) 0 0 x3.toNat)) G h))) (by decide) [1, 0, 0, 0, 6, 0, 0, 0] rfl ⟨⟨⟨trivial, ⟨⟨g5, (by decide : R32 100)⟩, c6⟩⟩, ⟨Nat.le_of_ble_eq_true rfl, rfl, hh _ _ _ rfl⟩⟩, ⟨Nat.le_of_ble_eq_true rfl, cpq ⟨Nat.le_of_ble_eq_true rfl, rfl⟩ ⟨Nat.le_of_ble_eq_true rfl, rfl⟩ g7⟩⟩ ?_
      generalize e9 : (am_row F 6 (va_cpy (F 286) (F 6) 0 0 x3.toNat)) = F8
      replace H := H F8 e9
      refine pt36 (s' := (63, [some (vr 1), some (vr 286), some (vr 287), some (vi x3), some (vi x4), some (vi x5)], [], (Wd S L (am_row F8 7 (va_cpy (F8 287) (F8 7) 0 0 x3.toNat)) G h))) (by decide) [0, 0, 0, 7, 0, 0, 0] rfl ⟨⟨trivial, ⟨Nat.le_of_ble_eq_true rfl, rfl, hh _ _ _ rfl⟩⟩, ⟨Nat.le_of_ble_eq_true rfl, cpq ⟨Nat.le_of_ble_eq_true rfl, rfl⟩ ⟨Nat.le_of_ble_eq_true rfl, rfl⟩ g7⟩⟩ ?_
      generalize e11 : (am_row F8 7 (va_cpy (F8 287) (F8 7) 0 0 x3.toNat)) = F10
      replace H := H F10 e11
      refine pt36 (s' := (72, [some (vr 1), some (vr 286), some (vr 287), some (vi x3), some (vi x4), some (vi x5)], [vi x3], (Wd S L (am_up F10 1 6 x3) G h))) (by decide) [0, 0, 0, 0, 0] rfl ⟨⟨trivial, ⟨Nat.le_of_ble_eq_true rfl, rfl, fun h => by cases h⟩⟩, ⟨Nat.le_of_ble_eq_true rfl, rfl⟩⟩ ?_
      exact wp.fin (v := some (vi x3)) (by decide) am_m36 rfl ⟨_, rfl, Or.inl rfl, rfl⟩ H
    · rw [if_neg c6] at H
      refine pt36 (s' := (40, [some (vr 1), some (vr 286), some (vr 287), some (vi x3), some (vi x4), some (vi x5)], [vi (-3)], (Wd S L F G h))) (by decide) [0, 0] rfl ⟨trivial, ⟨⟨g5, (by decide : R32 100)⟩, c6⟩⟩ ?_
      exact wp.fin (v := some (vi (-3))) (by decide) am_m36 rfl ⟨_, rfl, Or.inl rfl, rfl⟩ H
  · rw [if_neg c3] at H
    obtain ⟨g12, H⟩ := H
    refine pt36 (s' := (6, [some (vr 1), some (vr 286), some (vr 287), some (vi x3), some (vi (x4 + (F 287 x5.toNat))), some (vi (x5 + 1))], [], (Wd S L F G h))) (by decide) [0, 0, 0, 0, 0, 0, 0, 0, 0] rfl ⟨⟨trivial, ⟨⟨g1, g2⟩, c3⟩⟩, (ix ⟨Nat.le_of_ble_eq_true rfl, rfl⟩ g12)⟩ ?_
    exact wp.weak (a := [some (vr 1), some (vr 286), some (vr 287), some (vi x3), some (vi (x4 + (F 287 x5.toNat))), some (vi (x5 + 1))]) ⟨rfl, rfl, rfl, rfl, rfl, rfl, trivial⟩ H
set_option maxRecDepth 100000 in
set_option maxHeartbeats 4000000 in
theorem T37_0 {S L : Nat} {F G : Nat → Nat → Int} {h : Nat → Nat → Option Nat} (hh : RfH h) {a1 : Int} {a3 : Int}  {Q : Option V2 → W2 → Prop}
    (H : C38_0 a3 (Wd S L F G h) (fun v w1 => ∃ (v1 : Int), v = some (vi v1) ∧ w1 = (Wd S L F G h) ∧
  (R32 v1 ∧
  (if v1 = 0 then
   (R32 (F 1 13) ∧
   (if (F 1 13) < 8 then
    ((0 ≤ (F 1 13) ∧ (F 1 13) < 8) ∧
    ((0 : Int) ≤ 0 ∧ (0 : Int) ≤ 0 ∧ (0 : Int) ≤ a3 ∧ 0 + a3 ≤ 12 ∧ 0 + a3 ≤ 6) ∧
    ∀ F8 : Nat → Nat → Int, (am_row (am_up (am_up F 8 (F 1 13).toNat a1) 9 (F 1 13).toNat a3) (11 + (F 1 13).toNat) (va_cpy ((am_up (am_up F 8 (F 1 13).toNat a1) 9 (F 1 13).toNat a3) 286) ((am_up (am_up F 8 (F 1 13).toNat a1) 9 (F 1 13).toNat a3) (11 + (F 1 13).toNat)) 0 0 a3.toNat)) = F8 →
    Q (some (vi ((F8 1 13) + 1))) (Wd S L (am_up F8 1 13 ((F8 1 13) + 1)) G h))
   else
    Q (some (vi (-3))) (Wd S L F G h)))
  else
   Q (some (vi (-2))) (Wd S L F G h))))) : C37_0 a1 a3 (Wd S L F G h) Q := by
  refine pt37 (s' := (3, [some (vr 1), some (vi a1), some (vr 286), some (vi a3)], [vi a3, vr 286, vr 1], (Wd S L F G h))) (by decide) [0, 0, 0] rfl trivial ?_
  refine wp.cl am_m37 rfl am_m38 7 [vr 1, vr 286, vi a3] [] rfl (Nat.le_of_ble_eq_true rfl) ⟨(Nat.le_of_ble_eq_true rfl), (Nat.le_of_ble_eq_true rfl)⟩ rfl (Nat.le_of_ble_eq_true rfl) rfl (Nat.le_of_ble_eq_true rfl) (Nat.le_of_ble_eq_true rfl) ⟨_, _, rfl, Nat.le_of_ble_eq_true rfl, rfl⟩ ?_
  refine wp.mono H ?_
  rintro v w1 ⟨v1, rfl, rfl, H⟩
  show wp 8 37 (6, [some (vr 1), some (vi a1), some (vr 286), some (vi a3)], [vi v1], (Wd S L F G h)) _
  obtain ⟨g2, H⟩ := H
  by_cases c3 : v1 = 0
  · rw [if_pos c3] at H
    obtain ⟨g4, H⟩ := H
    refine pt37 (s' := (18, [some (vr 1), some (vi a1), some (vr 286), some (vi a3)], [vi 8, vi (F 1 13)], (Wd S L F G h))) (by decide) [1, 0, 0, 0] rfl ⟨⟨trivial, ⟨g2, c3⟩⟩, ⟨Nat.le_of_ble_eq_true rfl, rfl⟩⟩ ?_
    by_cases c5 : (F 1 13) < 8
    · rw [if_pos c5] at H
      obtain ⟨g6, H⟩ := H
      obtain ⟨g7, H⟩ := H
      refine pt37 (s' := (60, [some (vr 1), some (vi a1), some (vr 286), some (vi a3)], [], (Wd S L (am_row (am_up (am_up F 8 (F 1 13).toNat a1) 9 (F 1 13).toNat a3) (11 + (F 1 13).toNat) (va_cpy ((am_up (am_up F 8 (F 1 13).toNat a1) 9 (F 1 13).toNat a3) 286) ((am_up (am_up F 8 (F 1 13).toNat a1) 9 (F 1 13).toNat a3) (11 + (F 1 13).toNat)) 0 0 a3.toNat)) G h))) (by decide) [1, 0, 8, 0, 0, 0, 0, 0, 9, 0, 0, 0, 0, 0, 0, 0, 10, 0, 0, (11 + (F 1 13).toNat), 0, 0, 0] rfl ⟨⟨⟨⟨⟨⟨⟨⟨⟨⟨⟨trivial, ⟨⟨g4, (by decide : R32 8)⟩, c5⟩⟩, ⟨Nat.le_of_ble_eq_true rfl, rfl, hh _ _ _ rfl⟩⟩, ⟨Nat.le_of_ble_eq_true rfl, rfl⟩⟩, (ix ⟨Nat.le_of_ble_eq_true rfl, rfl⟩ g6)⟩, ⟨Nat.le_of_ble_eq_true rfl, rfl, hh _ _ _ rfl⟩⟩, ⟨Nat.le_of_ble_eq_true rfl, rfl⟩⟩, (ix ⟨Nat.le_of_ble_eq_true rfl, rfl⟩ g6)⟩, ⟨Nat.le_of_ble_eq_true rfl, rfl, hh _ _ _ rfl⟩⟩, ⟨Nat.le_of_ble_eq_true rfl, rfl⟩⟩, ⟨Nat.le_of_ble_eq_true rfl, Or.inl rfl, g6, hh_let1 hh g6⟩⟩, ⟨Nat.le_of_ble_eq_true rfl, cpq ⟨Nat.le_of_ble_eq_true rfl, rfl⟩ (YLP.of1 g6) g7⟩⟩ ?_
      generalize e9 : (am_row (am_up (am_up F 8 (F 1 13).toNat a1) 9 (F 1 13).toNat a3) (11 + (F 1 13).toNat) (va_cpy ((am_up (am_up F 8 (F 1 13).toNat a1) 9 (F 1 13).toNat a3) 286) ((am_up (am_up F 8 (F 1 13).toNat a1) 9 (F 1 13).toNat a3) (11 + (F 1 13).toNat)) 0 0 a3.toNat)) = F8
      replace H := H F8 e9
      refine pt37 (s' := (74, [some (vr 1), some (vi a1), some (vr 286), some (vi a3)], [vi ((F8 1 13) + 1)], (Wd S L (am_up F8 1 13 ((F8 1 13) + 1)) G h))) (by decide) [0, 0, 0, 0, 0, 0, 0, 0] rfl ⟨⟨⟨trivial, ⟨Nat.le_of_ble_eq_true rfl, rfl⟩⟩, ⟨Nat.le_of_ble_eq_true rfl, rfl, fun h => by cases h⟩⟩, ⟨Nat.le_of_ble_eq_true rfl, rfl⟩⟩ ?_
      exact wp.fin (v := some (vi ((F8 1 13) + 1))) (by decide) am_m37 rfl ⟨_, rfl, Or.inl rfl, rfl⟩ H
    · rw [if_neg c5] at H
      refine pt37 (s' := (23, [some (vr 1), some (vi a1), some (vr 286), some (vi a3)], [vi (-3)], (Wd S L F G h))) (by decide) [0, 0] rfl ⟨trivial, ⟨⟨g4, (by decide : R32 8)⟩, c5⟩⟩ ?_
      exact wp.fin (v := some (vi (-3))) (by decide) am_m37 rfl ⟨_, rfl, Or.inl rfl, rfl⟩ H
  · rw [if_neg c3] at H
    refine pt37 (s' := (11, [some (vr 1), some (vi a1), some (vr 286), some (vi a3)], [vi (-2)], (Wd S L F G h))) (by decide) [0, 0] rfl ⟨trivial, ⟨g2, c3⟩⟩ ?_
    exact wp.fin (v := some (vi (-2))) (by decide) am_m37 rfl ⟨_, rfl, Or.inl rfl, rfl⟩ H
set_option maxRecDepth 100000 in
set_option maxHeartbeats 4000000 in
theorem T38_0 {S L : Nat} {F G : Nat → Nat → Int} {h : Nat → Nat → Option Nat} (hh : RfH h) {a2 : Int}  {Q : Option V2 → W2 → Prop}
    (H : C38_2 a2 0 (Wd S L F G h) Q) : C38_0 a2 (Wd S L F G h) Q := by
  refine pt38 (s' := (2, [some (vr 1), some (vr 286), some (vi a2), some (vi 0)], [], (Wd S L F G h))) (by decide) [0, 0] rfl trivial ?_
  exact wp.weak (a := [some (vr 1), some (vr 286), some (vi a2), some (vi 0)]) ⟨rfl, rfl, rfl, rfl, trivial⟩ H
set_option maxRecDepth 100000 in
set_option maxHeartbeats 4000000 in
theorem T38_2 {S L : Nat} {F G : Nat → Nat → Int} {h : Nat → Nat → Option Nat} (hh : RfH h) {x2 : Int} {x3 : Int}  {Q : Option V2 → W2 → Prop}
    (H : (R32 x3 ∧
 R32 (F 1 13) ∧
 (if (F 1 13) ≤ x3 then
  Q (some (vi 0)) (Wd S L F G h)
 else
  ((0 ≤ x3 ∧ x3 < 8) ∧
  R32 (F 9 x3.toNat) ∧
  R32 x2 ∧
  (if (F 9 x3.toNat) = x2 then
   C39_0 (11 + x3.toNat) x2 (Wd S L F G h) (fun v w1 => ∃ (v8 : Int), v = some (vi v8) ∧ w1 = (Wd S L F G h) ∧
    (R32 v8 ∧
    (if v8 = 0 then
     C38_2 x2 (x3 + 1) (Wd S L F G h) Q
    else
     Q (some (vi 1)) (Wd S L F G h))))
  else
   C38_2 x2 (x3 + 1) (Wd S L F G h) Q))))) : C38_2 x2 x3 (Wd S L F G h) Q := by
  obtain ⟨g1, H⟩ := H
  obtain ⟨g2, H⟩ := H
  refine pt38 (s' := (7, [some (vr 1), some (vr 286), some (vi x2), some (vi x3)], [vi (F 1 13), vi x3], (Wd S L F G h))) (by decide) [0, 0, 0] rfl ⟨trivial, ⟨Nat.le_of_ble_eq_true rfl, rfl⟩⟩ ?_
  by_cases c3 : (F 1 13) ≤ x3
  · rw [if_pos c3] at H
    refine pt38 (s' := (43, [some (vr 1), some (vr 286), some (vi x2), some (vi x3)], [vi 0], (Wd S L F G h))) (by decide) [1, 0] rfl ⟨trivial, ⟨⟨g1, g2⟩, c3⟩⟩ ?_
    exact wp.fin (v := some (vi 0)) (by decide) am_m38 rfl ⟨_, rfl, Or.inr ⟨rfl, Or.inl rfl⟩, rfl⟩ H
  · rw [if_neg c3] at H
    obtain ⟨g4, H⟩ := H
    obtain ⟨g5, H⟩ := H
    obtain ⟨g6, H⟩ := H
    refine pt38 (s' := (17, [some (vr 1), some (vr 286), some (vi x2), some (vi x3)], [vi x2, vi (F 9 x3.toNat)], (Wd S L F G h))) (by decide) [0, 0, 9, 0, 0, 0] rfl ⟨⟨⟨trivial, ⟨⟨g1, g2⟩, c3⟩⟩, ⟨Nat.le_of_ble_eq_true rfl, rfl, hh _ _ _ rfl⟩⟩, (ix ⟨Nat.le_of_ble_eq_true rfl, rfl⟩ g4)⟩ ?_
    by_cases c7 : (F 9 x3.toNat) = x2
    · rw [if_pos c7] at H
      refine pt38 (s' := (28, [some (vr 1), some (vr 286), some (vi x2), some (vi x3)], [vi x2, vr 286, vr (11 + x3.toNat)], (Wd S L F G h))) (by decide) [0, 0, 10, 0, (11 + x3.toNat), 0, 0] rfl ⟨⟨⟨trivial, ⟨⟨g5, g6⟩, c7⟩⟩, ⟨Nat.le_of_ble_eq_true rfl, rfl, hh _ _ _ rfl⟩⟩, ⟨Nat.le_of_ble_eq_true rfl, Or.inl rfl, g4, hh_let1 hh g4⟩⟩ ?_
      refine wp.cl am_m38 rfl am_m39 6 [vr (11 + x3.toNat), vr 286, vi x2] [] rfl (Nat.le_of_ble_eq_true rfl) ⟨(Nat.le_of_ble_eq_true rfl), (Nat.le_of_ble_eq_true rfl)⟩ rfl (Nat.le_of_ble_eq_true rfl) rfl (Nat.le_of_ble_eq_true rfl) (Nat.le_of_ble_eq_true rfl) trivial ?_
      refine wp.mono H ?_
      rintro v w1 ⟨v8, rfl, rfl, H⟩
      show wp 7 38 (31, [some (vr 1), some (vr 286), some (vi x2), some (vi x3)], [vi v8], (Wd S L F G h)) _
      obtain ⟨g9, H⟩ := H
      by_cases c10 : v8 = 0
      · rw [if_pos c10] at H
        refine pt38 (s' := (2, [some (vr 1), some (vr 286), some (vi x2), some (vi (x3 + 1))], [], (Wd S L F G h))) (by decide) [1, 0, 0] rfl ⟨trivial, ⟨g9, c10⟩⟩ ?_
        exact wp.weak (a := [some (vr 1), some (vr 286), some (vi x2), some (vi (x3 + 1))]) ⟨rfl, rfl, rfl, rfl, trivial⟩ H
      · rw [if_neg c10] at H
        refine pt38 (s' := (35, [some (vr 1), some (vr 286), some (vi x2), some (vi x3)], [vi 1], (Wd S L F G h))) (by decide) [0, 0] rfl ⟨trivial, ⟨g9, c10⟩⟩ ?_
        exact wp.fin (v := some (vi 1)) (by decide) am_m38 rfl ⟨_, rfl, Or.inr ⟨rfl, Or.inr rfl⟩, rfl⟩ H
    · rw [if_neg c7] at H
      refine pt38 (s' := (2, [some (vr 1), some (vr 286), some (vi x2), some (vi (x3 + 1))], [], (Wd S L F G h))) (by decide) [1, 0, 0] rfl ⟨trivial, ⟨⟨g5, g6⟩, c7⟩⟩ ?_
      exact wp.weak (a := [some (vr 1), some (vr 286), some (vi x2), some (vi (x3 + 1))]) ⟨rfl, rfl, rfl, rfl, trivial⟩ H
set_option maxRecDepth 100000 in
set_option maxHeartbeats 4000000 in
theorem T39_0 {S L : Nat} {F G : Nat → Nat → Int} {h : Nat → Nat → Option Nat} (hh : RfH h) {p0 : Nat} {a2 : Int} (tp0 : YLP p0) {Q : Option V2 → W2 → Prop}
    (H : C39_2 p0 a2 0 (Wd S L F G h) Q) : C39_0 p0 a2 (Wd S L F G h) Q := by
  refine pt39 (s' := (2, [some (vr p0), some (vr 286), some (vi a2), some (vi 0)], [], (Wd S L F G h))) (by decide) [0, 0] rfl trivial ?_
  exact wp.weak (a := [some (vr p0), some (vr 286), some (vi a2), some (vi 0)]) ⟨rfl, rfl, rfl, rfl, trivial⟩ H
set_option maxRecDepth 100000 in
set_option maxHeartbeats 4000000 in
theorem T39_2 {S L : Nat} {F G : Nat → Nat → Int} {h : Nat → Nat → Option Nat} (hh : RfH h) {p0 : Nat} {x2 : Int} {x3 : Int} (tp0 : YLP p0) {Q : Option V2 → W2 → Prop}
    (H : (R32 x3 ∧
 R32 x2 ∧
 (if x2 ≤ x3 then
  Q (some (vi 1)) (Wd S L F G h)
 else
  ((0 ≤ x3 ∧ x3 < 6) ∧
  (0 ≤ x3 ∧ x3 < 12) ∧
  R32 (F p0 x3.toNat) ∧
  R32 (F 286 x3.toNat) ∧
  (if (F p0 x3.toNat) = (F 286 x3.toNat) then
   C39_2 p0 x2 (x3 + 1) (Wd S L F G h) Q
  else
   Q (some (vi 0)) (Wd S L F G h)))))) : C39_2 p0 x2 x3 (Wd S L F G h) Q := by
  obtain ⟨g1, H⟩ := H
  obtain ⟨g2, H⟩ := H
  refine pt39 (s' := (4, [some (vr p0), some (vr 286), some (vi x2), some (vi x3)], [vi x2, vi x3], (Wd S L F G h))) (by decide) [0, 0] rfl trivial ?_
  by_cases c3 : x2 ≤ x3
  · rw [if_pos c3] at H
    refine pt39 (s' := (25, [some (vr p0), some (vr 286), some (vi x2), some (vi x3)], [vi 1], (Wd S L F G h))) (by decide) [1, 0] rfl ⟨trivial, ⟨⟨g1, g2⟩, c3⟩⟩ ?_
    exact wp.fin (v := some (vi 1)) (by decide) am_m39 rfl ⟨_, rfl, Or.inr ⟨rfl, Or.inr rfl⟩, rfl⟩ H
  · rw [if_neg c3] at H
    obtain ⟨g4, H⟩ := H
    obtain ⟨g5, H⟩ := H
    obtain ⟨g6, H⟩ := H
    obtain ⟨g7, H⟩ := H
    refine pt39 (s' := (13, [some (vr p0), some (vr 286), some (vi x2), some (vi x3)], [vi (F 286 x3.toNat), vi (F p0 x3.toNat)], (Wd S L F G h))) (by decide) [0, 0, 0, 0, 0, 0, 0] rfl ⟨⟨⟨trivial, ⟨⟨g1, g2⟩, c3⟩⟩, (ix tp0 g4)⟩, (ix ⟨Nat.le_of_ble_eq_true rfl, rfl⟩ g5)⟩ ?_
    by_cases c8 : (F p0 x3.toNat) = (F 286 x3.toNat)
    · rw [if_pos c8] at H
      refine pt39 (s' := (2, [some (vr p0), some (vr 286), some (vi x2), some (vi (x3 + 1))], [], (Wd S L F G h))) (by decide) [1, 0, 0] rfl ⟨trivial, ⟨⟨g6, g7⟩, c8⟩⟩ ?_
      exact wp.weak (a := [some (vr p0), some (vr 286), some (vi x2), some (vi (x3 + 1))]) ⟨rfl, rfl, rfl, rfl, trivial⟩ H
    · rw [if_neg c8] at H
      refine pt39 (s' := (17, [some (vr p0), some (vr 286), some (vi x2), some (vi x3)], [vi 0], (Wd S L F G h))) (by decide) [0, 0] rfl ⟨trivial, ⟨⟨g6, g7⟩, c8⟩⟩ ?_
      exact wp.fin (v := some (vi 0)) (by decide) am_m39 rfl ⟨_, rfl, Or.inr ⟨rfl, Or.inl rfl⟩, rfl⟩ H
set_option maxRecDepth 100000 in
set_option maxHeartbeats 4000000 in
theorem T40_0 {S L : Nat} {F G : Nat → Nat → Int} {h : Nat → Nat → Option Nat} (hh : RfH h) {a1 : Int}  {Q : Option V2 → W2 → Prop}
    (H : (R32 a1 ∧
 (if a1 < 0 then
  Q (some (vi (-1))) (Wd S L F G h)
 else
  (R32 ((F 1 13) - 1) ∧
  (if ((F 1 13) - 1) < a1 then
   Q (some (vi (-1))) (Wd S L F G h)
  else
   C40_28 a1 (Wd S L (am_up F 1 13 ((F 1 13) - 1)) G h) Q))))) : C40_0 a1 (Wd S L F G h) Q := by
  refine pt40 (s' := (8, [some (vr 1), some (vi a1), none], [vi ((F 1 13) - 1), vi 0, vi a1], (Wd S L F G h))) (by decide) [0, 0, 0, 0, 0, 0] rfl ⟨trivial, ⟨Nat.le_of_ble_eq_true rfl, rfl⟩⟩ ?_
  refine wp.cl am_m40 rfl am_m101 6 [vi a1, vi 0, vi ((F 1 13) - 1)] [] rfl (Nat.le_of_ble_eq_true rfl) ⟨(Nat.le_of_ble_eq_true rfl), (Nat.le_of_ble_eq_true rfl)⟩ rfl (Nat.le_of_ble_eq_true rfl) rfl (Nat.le_of_ble_eq_true rfl) (Nat.le_of_ble_eq_true rfl) trivial ?_
  obtain ⟨g1, H⟩ := H
  refine pt101 (s' := (2, [some (vi a1), some (vi 0), some (vi ((F 1 13) - 1))], [vi 0, vi a1], (Wd S L F G h))) (by decide) [0, 0] rfl trivial ?_
  by_cases c2 : a1 < 0
  · rw [if_pos c2] at H
    refine pt101 (s' := (15, [some (vi a1), some (vi 0), some (vi ((F 1 13) - 1))], [vi 0], (Wd S L F G h))) (by decide) [1, 0] rfl ⟨trivial, ⟨⟨g1, (by decide : R32 0)⟩, c2⟩⟩ ?_
    refine wp.fin (v := some (vi 0)) (by decide) am_m101 rfl ⟨_, rfl, Or.inr ⟨rfl, Or.inl rfl⟩, rfl⟩ ?_
    show wp 7 40 (11, [some (vr 1), some (vi a1), none], [vi 0], (Wd S L F G h)) _
    refine pt40 (s' := (15, [some (vr 1), some (vi a1), none], [vi (-1)], (Wd S L F G h))) (by decide) [0, 0] rfl ⟨trivial, ⟨(by decide : R32 0), (by decide : (0 : Int) = (0 : Int))⟩⟩ ?_
    exact wp.fin (v := some (vi (-1))) (by decide) am_m40 rfl ⟨_, rfl, Or.inl rfl, rfl⟩ H
  · rw [if_neg c2] at H
    obtain ⟨g3, H⟩ := H
    refine pt101 (s' := (7, [some (vi a1), some (vi 0), some (vi ((F 1 13) - 1))], [vi ((F 1 13) - 1), vi a1], (Wd S L F G h))) (by decide) [0, 0, 0] rfl ⟨trivial, ⟨⟨g1, (by decide : R32 0)⟩, c2⟩⟩ ?_
    by_cases c4 : ((F 1 13) - 1) < a1
    · rw [if_pos c4] at H
      refine pt101 (s' := (15, [some (vi a1), some (vi 0), some (vi ((F 1 13) - 1))], [vi 0], (Wd S L F G h))) (by decide) [1, 0] rfl ⟨trivial, ⟨⟨g1, g3⟩, c4⟩⟩ ?_
      refine wp.fin (v := some (vi 0)) (by decide) am_m101 rfl ⟨_, rfl, Or.inr ⟨rfl, Or.inl rfl⟩, rfl⟩ ?_
      show wp 7 40 (11, [some (vr 1), some (vi a1), none], [vi 0], (Wd S L F G h)) _
      refine pt40 (s' := (15, [some (vr 1), some (vi a1), none], [vi (-1)], (Wd S L F G h))) (by decide) [0, 0] rfl ⟨trivial, ⟨(by decide : R32 0), (by decide : (0 : Int) = (0 : Int))⟩⟩ ?_
      exact wp.fin (v := some (vi (-1))) (by decide) am_m40 rfl ⟨_, rfl, Or.inl rfl, rfl⟩ H
    · rw [if_neg c4] at H
      refine pt101 (s' := (15, [some (vi a1), some (vi 0), some (vi ((F 1 13) - 1))], [vi 1], (Wd S L F G h))) (by decide) [0, 0, 0] rfl ⟨trivial, ⟨⟨g1, g3⟩, c4⟩⟩ ?_
      refine wp.fin (v := some (vi 1)) (by decide) am_m101 rfl ⟨_, rfl, Or.inr ⟨rfl, Or.inr rfl⟩, rfl⟩ ?_
      show wp 7 40 (11, [some (vr 1), some (vi a1), none], [vi 1], (Wd S L F G h)) _
      refine pt40 (s' := (28, [some (vr 1), some (vi a1), some (vi a1)], [], (Wd S L (am_up F 1 13 ((F 1 13) - 1)) G h))) (by decide) [1, 0, 0, 0, 0, 0, 0, 0, 0] rfl ⟨⟨⟨trivial, ⟨(by decide : R32 1), (by decide : ¬ (1 : Int) = (0 : Int))⟩⟩, ⟨Nat.le_of_ble_eq_true rfl, rfl⟩⟩, ⟨Nat.le_of_ble_eq_true rfl, rfl, fun h => by cases h⟩⟩ ?_
      exact wp.weak (a := [some (vr 1), none, some (vi a1)]) ⟨rfl, rfl, trivial⟩ H
set_option maxRecDepth 100000 in
set_option maxHeartbeats 4000000 in
theorem T40_28 {S L : Nat} {F G : Nat → Nat → Int} {h : Nat → Nat → Option Nat} (hh : RfH h) {x2 : Int}  {Q : Option V2 → W2 → Prop}
    (H : (R32 x2 ∧
 R32 (F 1 13) ∧
 (if (F 1 13) ≤ x2 then
  Q (some (vi (F 1 13))) (Wd S L F G h)
 else
  ((0 ≤ (x2 + 1) ∧ (x2 + 1) < 8) ∧
  (0 ≤ x2 ∧ x2 < 8) ∧
  ∀ F6 : Nat → Nat → Int, (am_row (am_up (am_up F 8 x2.toNat (F 8 (x2 + 1).toNat)) 9 x2.toNat (F 9 (x2 + 1).toNat)) (11 + x2.toNat) (va_cpy ((am_up (am_up F 8 x2.toNat (F 8 (x2 + 1).toNat)) 9 x2.toNat (F 9 (x2 + 1).toNat)) (11 + (x2 + 1).toNat)) ((am_up (am_up F 8 x2.toNat (F 8 (x2 + 1).toNat)) 9 x2.toNat (F 9 (x2 + 1).toNat)) (11 + x2.toNat)) 0 0 6)) = F6 →
  C40_28 (x2 + 1) (Wd S L F6 G h) Q)))) : C40_28 x2 (Wd S L F G h) Q := by
  obtain ⟨g1, H⟩ := H
  obtain ⟨g2, H⟩ := H
  refine pt40 (s' := (33, [some (vr 1), none, some (vi x2)], [vi (F 1 13), vi x2], (Wd S L F G h))) (by decide) [0, 0, 0] rfl ⟨trivial, ⟨Nat.le_of_ble_eq_true rfl, rfl⟩⟩ ?_
  by_cases c3 : (F 1 13) ≤ x2
  · rw [if_pos c3] at H
    refine pt40 (s' := (95, [some (vr 1), none, some (vi x2)], [vi (F 1 13)], (Wd S L F G h))) (by decide) [1, 0, 0] rfl ⟨⟨trivial, ⟨⟨g1, g2⟩, c3⟩⟩, ⟨Nat.le_of_ble_eq_true rfl, rfl⟩⟩ ?_
    exact wp.fin (v := some (vi (F 1 13))) (by decide) am_m40 rfl ⟨_, rfl, Or.inl rfl, rfl⟩ H
  · rw [if_neg c3] at H
    obtain ⟨g4, H⟩ := H
    obtain ⟨g5, H⟩ := H
    refine pt40 (s' := (85, [some (vr 1), none, some (vi x2)], [], (Wd S L (am_row (am_up (am_up F 8 x2.toNat (F 8 (x2 + 1).toNat)) 9 x2.toNat (F 9 (x2 + 1).toNat)) (11 + x2.toNat) (va_cpy ((am_up (am_up F 8 x2.toNat (F 8 (x2 + 1).toNat)) 9 x2.toNat (F 9 (x2 + 1).toNat)) (11 + (x2 + 1).toNat)) ((am_up (am_up F 8 x2.toNat (F 8 (x2 + 1).toNat)) 9 x2.toNat (F 9 (x2 + 1).toNat)) (11 + x2.toNat)) 0 0 6)) G h))) (by decide) [0, 0, 8, 0, 0, 8, 0, 0, 0, 0, 0, 0, 9, 0, 0, 9, 0, 0, 0, 0, 0, 0, 10, 0, 0, 0, (11 + (x2 + 1).toNat), 0, 0, 10, 0, (11 + x2.toNat), 0, 0, 0] rfl ⟨⟨⟨⟨⟨⟨⟨⟨⟨⟨⟨⟨⟨⟨trivial, ⟨⟨g1, g2⟩, c3⟩⟩, ⟨Nat.le_of_ble_eq_true rfl, rfl, hh _ _ _ rfl⟩⟩, ⟨Nat.le_of_ble_eq_true rfl, rfl, hh _ _ _ rfl⟩⟩, (ix ⟨Nat.le_of_ble_eq_true rfl, rfl⟩ g4)⟩, (ix ⟨Nat.le_of_ble_eq_true rfl, rfl⟩ g5)⟩, ⟨Nat.le_of_ble_eq_true rfl, rfl, hh _ _ _ rfl⟩⟩, ⟨Nat.le_of_ble_eq_true rfl, rfl, hh _ _ _ rfl⟩⟩, (ix ⟨Nat.le_of_ble_eq_true rfl, rfl⟩ g4)⟩, (ix ⟨Nat.le_of_ble_eq_true rfl, rfl⟩ g5)⟩, ⟨Nat.le_of_ble_eq_true rfl, rfl, hh _ _ _ rfl⟩⟩, ⟨Nat.le_of_ble_eq_true rfl, Or.inl rfl, g4, hh_let1 hh g4⟩⟩, ⟨Nat.le_of_ble_eq_true rfl, rfl, hh _ _ _ rfl⟩⟩, ⟨Nat.le_of_ble_eq_true rfl, Or.inl rfl, g5, hh_let1 hh g5⟩⟩, ⟨Nat.le_of_ble_eq_true rfl, cpq (YLP.of1 g4) (YLP.of1 g5) ⟨by decide, by decide, by decide, by decide, by decide⟩⟩⟩ ?_
    generalize e7 : (am_row (am_up (am_up F 8 x2.toNat (F 8 (x2 + 1).toNat)) 9 x2.toNat (F 9 (x2 + 1).toNat)) (11 + x2.toNat) (va_cpy ((am_up (am_up F 8 x2.toNat (F 8 (x2 + 1).toNat)) 9 x2.toNat (F 9 (x2 + 1).toNat)) (11 + (x2 + 1).toNat)) ((am_up (am_up F 8 x2.toNat (F 8 (x2 + 1).toNat)) 9 x2.toNat (F 9 (x2 + 1).toNat)) (11 + x2.toNat)) 0 0 6)) = F6
    replace H := H F6 e7
    refine pt40 (s' := (28, [some (vr 1), none, some (vi (x2 + 1))], [], (Wd S L F6 G h))) (by decide) [0, 0] rfl trivial ?_
    exact wp.weak (a := [some (vr 1), none, some (vi (x2 + 1))]) ⟨rfl, rfl, trivial⟩ H
set_option maxRecDepth 100000 in
set_option maxHeartbeats 4000000 in
theorem T41_0 {S L : Nat} {F G : Nat → Nat → Int} {h : Nat → Nat → Option Nat} (hh : RfH h) {a1 : Int}  {Q : Option V2 → W2 → Prop}
    (H : C41_4 a1 1 0 (Wd S L F G h) Q) : C41_0 a1 (Wd S L F G h) Q := by
  refine pt41 (s' := (4, [some (vr 1), some (vi a1), some (vi 1), some (vi 0)], [], (Wd S L F G h))) (by decide) [0, 0, 0, 0] rfl trivial ?_
  exact wp.weak (a := [some (vr 1), some (vi a1), some (vi 1), some (vi 0)]) ⟨rfl, rfl, rfl, rfl, trivial⟩ H
set_option maxRecDepth 100000 in
set_option maxHeartbeats 4000000 in
theorem T41_4 {S L : Nat} {F G : Nat → Nat → Int} {h : Nat → Nat → Option Nat} (hh : RfH h) {x1 : Int} {x2 : Int} {x3 : Int}  {Q : Option V2 → W2 → Prop}
    (H : ((0 ≤ x1 ∧ x1 < 8) ∧
 R32 x3 ∧
 R32 (F 9 x1.toNat) ∧
 (if (F 9 x1.toNat) ≤ x3 then
  Q (some (vi x2)) (Wd S L F G h)
 else
  ((0 ≤ x3 ∧ x3 < 6) ∧
  (0 ≤ (F (11 + x1.toNat) x3.toNat) ∧ (F (11 + x1.toNat) x3.toNat) < 12) ∧
  R32 x2 ∧
  (if x2 < 8 then
   C41_4 x1 ((x2 * 8) + (F 4 (F (11 + x1.toNat) x3.toNat).toNat)) (x3 + 1) (Wd S L F G h) Q
  else
   (((0 : Int) ≤ x2 ∧ x2 ≤ 2147483647) ∧
   R32 (x2 % 8) ∧
   R32 (F 4 (F (11 + x1.toNat) x3.toNat).toNat) ∧
   (if (x2 % 8) = (F 4 (F (11 + x1.toNat) x3.toNat).toNat) then
    C41_4 x1 x2 (x3 + 1) (Wd S L F G h) Q
   else
    C41_4 x1 ((x2 * 8) + (F 4 (F (11 + x1.toNat) x3.toNat).toNat)) (x3 + 1) (Wd S L F G h) Q))))))) : C41_4 x1 x2 x3 (Wd S L F G h) Q := by
  obtain ⟨g1, H⟩ := H
  obtain ⟨g2, H⟩ := H
  obtain ⟨g3, H⟩ := H
  refine pt41 (s' := (11, [some (vr 1), some (vi x1), some (vi x2), some (vi x3)], [vi (F 9 x1.toNat), vi x3], (Wd S L F G h))) (by decide) [0, 0, 9, 0, 0] rfl ⟨⟨trivial, ⟨Nat.le_of_ble_eq_true rfl, rfl, hh _ _ _ rfl⟩⟩, (ix ⟨Nat.le_of_ble_eq_true rfl, rfl⟩ g1)⟩ ?_
  by_cases c4 : (F 9 x1.toNat) ≤ x3
  · rw [if_pos c4] at H
    refine pt41 (s' := (39, [some (vr 1), some (vi x1), some (vi x2), some (vi x3)], [vi x2], (Wd S L F G h))) (by decide) [1, 0] rfl ⟨trivial, ⟨⟨g2, g3⟩, c4⟩⟩ ?_
    exact wp.fin (v := some (vi x2)) (by decide) am_m41 rfl ⟨_, rfl, Or.inl rfl, rfl⟩ H
  · rw [if_neg c4] at H
    obtain ⟨g5, H⟩ := H
    obtain ⟨g6, H⟩ := H
    refine pt41 (s' := (28, [some (vr 1), some (vi x1), some (vi x2), some (vi x3)], [vi (F 4 (F (11 + x1.toNat) x3.toNat).toNat), vi x2], (Wd S L F G h))) (by decide) [0, 0, 0, 4, 0, 10, 0, (11 + x1.toNat), 0, 0, 0] rfl ⟨⟨⟨⟨⟨⟨trivial, ⟨⟨g2, g3⟩, c4⟩⟩, ⟨Nat.le_of_ble_eq_true rfl, rfl, hh _ _ _ rfl⟩⟩, ⟨Nat.le_of_ble_eq_true rfl, rfl, hh _ _ _ rfl⟩⟩, ⟨Nat.le_of_ble_eq_true rfl, Or.inl rfl, g1, hh_let1 hh g1⟩⟩, (ix (YLP.of1 g1) g5)⟩, (ix ⟨Nat.le_of_ble_eq_true rfl, rfl⟩ g6)⟩ ?_
    refine wp.cl am_m41 rfl am_m108 6 [vi x2, vi (F 4 (F (11 + x1.toNat) x3.toNat).toNat)] [] rfl (Nat.le_of_ble_eq_true rfl) ⟨(Nat.le_of_ble_eq_true rfl), (Nat.le_of_ble_eq_true rfl)⟩ rfl (Nat.le_of_ble_eq_true rfl) rfl (Nat.le_of_ble_eq_true rfl) (Nat.le_of_ble_eq_true rfl) trivial ?_
    obtain ⟨g7, H⟩ := H
    refine pt108 (s' := (3, [some (vi x2), some (vi (F 4 (F (11 + x1.toNat) x3.toNat).toNat)), none], [vi 8, vi x2], (Wd S L F G h))) (by decide) [0, 0] rfl trivial ?_
    by_cases c8 : x2 < 8
    · rw [if_pos c8] at H
      refine pt108 (s' := (34, [some (vi x2), some (vi (F 4 (F (11 + x1.toNat) x3.toNat).toNat)), some (vi 0)], [vi ((x2 * 8) + (F 4 (F (11 + x1.toNat) x3.toNat).toNat))], (Wd S L F G h))) (by decide) [1, 0, 0, 0, 1, 0, 0, 0, 0, 0] rfl ⟨⟨trivial, ⟨⟨g7, (by decide : R32 8)⟩, c8⟩⟩, ⟨(by decide : R32 0), (by decide : (0 : Int) = (0 : Int))⟩⟩ ?_
      refine wp.fin (v := some (vi ((x2 * 8) + (F 4 (F (11 + x1.toNat) x3.toNat).toNat)))) (by decide) am_m108 rfl ⟨_, rfl, Or.inl rfl, rfl⟩ ?_
      show wp 7 41 (31, [some (vr 1), some (vi x1), some (vi x2), some (vi x3)], [vi ((x2 * 8) + (F 4 (F (11 + x1.toNat) x3.toNat).toNat))], (Wd S L F G h)) _
      refine pt41 (s' := (4, [some (vr 1), some (vi x1), some (vi ((x2 * 8) + (F 4 (F (11 + x1.toNat) x3.toNat).toNat))), some (vi (x3 + 1))], [], (Wd S L F G h))) (by decide) [0, 0, 0] rfl trivial ?_
      exact wp.weak (a := [some (vr 1), some (vi x1), some (vi ((x2 * 8) + (F 4 (F (11 + x1.toNat) x3.toNat).toNat))), some (vi (x3 + 1))]) ⟨rfl, rfl, rfl, rfl, trivial⟩ H
    · rw [if_neg c8] at H
      obtain ⟨g9, H⟩ := H
      obtain ⟨g10, H⟩ := H
      obtain ⟨g11, H⟩ := H
      refine pt108 (s' := (11, [some (vi x2), some (vi (F 4 (F (11 + x1.toNat) x3.toNat).toNat)), none], [vi (F 4 (F (11 + x1.toNat) x3.toNat).toNat), vi (x2 % 8)], (Wd S L F G h))) (by decide) [0, 0, 0, 0, 0] rfl ⟨⟨trivial, ⟨⟨g7, (by decide : R32 8)⟩, c8⟩⟩, ⟨g9.1, g9.2, (by decide : (0 : Int) < 8), (by decide : (8 : Int) ≤ 2147483647)⟩⟩ ?_
      by_cases c12 : (x2 % 8) = (F 4 (F (11 + x1.toNat) x3.toNat).toNat)
      · rw [if_pos c12] at H
        refine pt108 (s' := (34, [some (vi x2), some (vi (F 4 (F (11 + x1.toNat) x3.toNat).toNat)), some (vi 1)], [vi x2], (Wd S L F G h))) (by decide) [0, 0, 0, 0, 0, 0, 0, 0] rfl ⟨⟨trivial, ⟨⟨g10, g11⟩, c12⟩⟩, ⟨(by decide : R32 1), (by decide : ¬ (1 : Int) = (0 : Int))⟩⟩ ?_
        refine wp.fin (v := some (vi x2)) (by decide) am_m108 rfl ⟨_, rfl, Or.inl rfl, rfl⟩ ?_
        show wp 7 41 (31, [some (vr 1), some (vi x1), some (vi x2), some (vi x3)], [vi x2], (Wd S L F G h)) _
        refine pt41 (s' := (4, [some (vr 1), some (vi x1), some (vi x2), some (vi (x3 + 1))], [], (Wd S L F G h))) (by decide) [0, 0, 0] rfl trivial ?_
        exact wp.weak (a := [some (vr 1), some (vi x1), some (vi x2), some (vi (x3 + 1))]) ⟨rfl, rfl, rfl, rfl, trivial⟩ H
      · rw [if_neg c12] at H
        refine pt108 (s' := (34, [some (vi x2), some (vi (F 4 (F (11 + x1.toNat) x3.toNat).toNat)), some (vi 0)], [vi ((x2 * 8) + (F 4 (F (11 + x1.toNat) x3.toNat).toNat))], (Wd S L F G h))) (by decide) [1, 0, 0, 0, 1, 0, 0, 0, 0, 0] rfl ⟨⟨trivial, ⟨⟨g10, g11⟩, c12⟩⟩, ⟨(by decide : R32 0), (by decide : (0 : Int) = (0 : Int))⟩⟩ ?_
        refine wp.fin (v := some (vi ((x2 * 8) + (F 4 (F (11 + x1.toNat) x3.toNat).toNat)))) (by decide) am_m108 rfl ⟨_, rfl, Or.inl rfl, rfl⟩ ?_
        show wp 7 41 (31, [some (vr 1), some (vi x1), some (vi x2), some (vi x3)], [vi ((x2 * 8) + (F 4 (F (11 + x1.toNat) x3.toNat).toNat))], (Wd S L F G h)) _
        refine pt41 (s' := (4, [some (vr 1), some (vi x1), some (vi ((x2 * 8) + (F 4 (F (11 + x1.toNat) x3.toNat).toNat))), some (vi (x3 + 1))], [], (Wd S L F G h))) (by decide) [0, 0, 0] rfl trivial ?_
        exact wp.weak (a := [some (vr 1), some (vi x1), some (vi ((x2 * 8) + (F 4 (F (11 + x1.toNat) x3.toNat).toNat))), some (vi (x3 + 1))]) ⟨rfl, rfl, rfl, rfl, trivial⟩ H
set_option maxRecDepth 100000 in
set_option maxHeartbeats 4000000 in
theorem T42_0 {S L : Nat} {F G : Nat → Nat → Int} {h : Nat → Nat → Option Nat} (hh : RfH h) {a1 : Int}  {Q : Option V2 → W2 → Prop}
    (H : C42_4 a1 0 0 (Wd S L F G h) Q) : C42_0 a1 (Wd S L F G h) Q := by
  refine pt42 (s' := (4, [some (vr 1), some (vi a1), some (vi 0), some (vi 0)], [], (Wd S L F G h))) (by decide) [0, 0, 0, 0] rfl trivial ?_
  exact wp.weak (a := [some (vr 1), some (vi a1), some (vi 0), some (vi 0)]) ⟨rfl, rfl, rfl, rfl, trivial⟩ H
set_option maxRecDepth 100000 in
set_option maxHeartbeats 4000000 in
theorem T42_4 {S L : Nat} {F G : Nat → Nat → Int} {h : Nat → Nat → Option Nat} (hh : RfH h) {x1 : Int} {x2 : Int} {x3 : Int}  {Q : Option V2 → W2 → Prop}
    (H : (R32 x3 ∧
 R32 (F 1 13) ∧
 (if (F 1 13) ≤ x3 then
  Q (some (vi x2)) (Wd S L F G h)
 else
  C41_0 x3 (Wd S L F G h) (fun v w1 => ∃ (v4 : Int), v = some (vi v4) ∧ w1 = (Wd S L F G h) ∧
   (R32 v4 ∧
   R32 x1 ∧
   (if v4 = x1 then
    C42_4 x1 ((Int32.ofInt x2 ||| Int32.ofInt ((Int32.ofInt 1 <<< (Int32.ofInt x3 &&& 31)).toInt)).toInt) (x3 + 1) (Wd S L F G h) Q
   else
    C42_4 x1 x2 (x3 + 1) (Wd S L F G h) Q)))))) : C42_4 x1 x2 x3 (Wd S L F G h) Q := by
  obtain ⟨g1, H⟩ := H
  obtain ⟨g2, H⟩ := H
  refine pt42 (s' := (9, [some (vr 1), some (vi x1), some (vi x2), some (vi x3)], [vi (F 1 13), vi x3], (Wd S L F G h))) (by decide) [0, 0, 0] rfl ⟨trivial, ⟨Nat.le_of_ble_eq_true rfl, rfl⟩⟩ ?_
  by_cases c3 : (F 1 13) ≤ x3
  · rw [if_pos c3] at H
    refine pt42 (s' := (34, [some (vr 1), some (vi x1), some (vi x2), some (vi x3)], [vi x2], (Wd S L F G h))) (by decide) [1, 0] rfl ⟨trivial, ⟨⟨g1, g2⟩, c3⟩⟩ ?_
    exact wp.fin (v := some (vi x2)) (by decide) am_m42 rfl ⟨_, rfl, Or.inl rfl, rfl⟩ H
  · rw [if_neg c3] at H
    refine pt42 (s' := (14, [some (vr 1), some (vi x1), some (vi x2), some (vi x3)], [vi x3, vr 1], (Wd S L F G h))) (by decide) [0, 0, 0] rfl ⟨trivial, ⟨⟨g1, g2⟩, c3⟩⟩ ?_
    refine wp.cl am_m42 rfl am_m41 7 [vr 1, vi x3] [] rfl (Nat.le_of_ble_eq_true rfl) ⟨(Nat.le_of_ble_eq_true rfl), (Nat.le_of_ble_eq_true rfl)⟩ rfl (Nat.le_of_ble_eq_true rfl) rfl (Nat.le_of_ble_eq_true rfl) (Nat.le_of_ble_eq_true rfl) ⟨_, _, rfl, Nat.le_of_ble_eq_true rfl, rfl⟩ ?_
    refine wp.mono H ?_
    rintro v w1 ⟨v4, rfl, rfl, H⟩
    show wp 8 42 (17, [some (vr 1), some (vi x1), some (vi x2), some (vi x3)], [vi v4], (Wd S L F G h)) _
    obtain ⟨g5, H⟩ := H
    obtain ⟨g6, H⟩ := H
    refine pt42 (s' := (18, [some (vr 1), some (vi x1), some (vi x2), some (vi x3)], [vi x1, vi v4], (Wd S L F G h))) (by decide) [0] rfl trivial ?_
    by_cases c7 : v4 = x1
    · rw [if_pos c7] at H
      refine pt42 (s' := (4, [some (vr 1), some (vi x1), some (vi ((Int32.ofInt x2 ||| Int32.ofInt ((Int32.ofInt 1 <<< (Int32.ofInt x3 &&& 31)).toInt)).toInt)), some (vi (x3 + 1))], [], (Wd S L F G h))) (by decide) [0, 0, 0, 0, 0, 0, 0, 0, 0] rfl ⟨trivial, ⟨⟨g5, g6⟩, c7⟩⟩ ?_
      exact wp.weak (a := [some (vr 1), some (vi x1), some (vi ((Int32.ofInt x2 ||| Int32.ofInt ((Int32.ofInt 1 <<< (Int32.ofInt x3 &&& 31)).toInt)).toInt)), some (vi (x3 + 1))]) ⟨rfl, rfl, rfl, rfl, trivial⟩ H
    · rw [if_neg c7] at H
      refine pt42 (s' := (4, [some (vr 1), some (vi x1), some (vi x2), some (vi (x3 + 1))], [], (Wd S L F G h))) (by decide) [1, 0, 0] rfl ⟨trivial, ⟨⟨g5, g6⟩, c7⟩⟩ ?_
      exact wp.weak (a := [some (vr 1), some (vi x1), some (vi x2), some (vi (x3 + 1))]) ⟨rfl, rfl, rfl, rfl, trivial⟩ H
set_option maxRecDepth 100000 in
set_option maxHeartbeats 4000000 in
theorem T43_0 {S L : Nat} {F G : Nat → Nat → Int} {h : Nat → Nat → Option Nat} (hh : RfH h)   {Q : Option V2 → W2 → Prop}
    (H : C43_4 0 0 (Wd S L F G h) Q) : C43_0  (Wd S L F G h) Q := by
  refine pt43 (s' := (4, [some (vr 1), some (vi 0), some (vi 0)], [], (Wd S L F G h))) (by decide) [0, 0, 0, 0] rfl trivial ?_
  exact wp.weak (a := [some (vr 1), some (vi 0), some (vi 0)]) ⟨rfl, rfl, rfl, trivial⟩ H
set_option maxRecDepth 100000 in
set_option maxHeartbeats 4000000 in
theorem T43_4 {S L : Nat} {F G : Nat → Nat → Int} {h : Nat → Nat → Option Nat} (hh : RfH h) {x1 : Int} {x2 : Int}  {Q : Option V2 → W2 → Prop}
    (H : (R32 x2 ∧
 R32 (F 1 13) ∧
 (if (F 1 13) ≤ x2 then
  Q (some (vi x1)) (Wd S L F G h)
 else
  C44_0 x2 (Wd S L F G h) (fun v w1 => ∃ (v4 : Int), v = some (vi v4) ∧ w1 = (Wd S L F G h) ∧
   (R32 v4 ∧
   (if v4 = 0 then
    C43_4 x1 (x2 + 1) (Wd S L F G h) Q
   else
    ((0 ≤ x2 ∧ x2 < 8) ∧
    C43_4 (x1 + (F 8 x2.toNat)) (x2 + 1) (Wd S L F G h) Q))))))) : C43_4 x1 x2 (Wd S L F G h) Q := by
  obtain ⟨g1, H⟩ := H
  obtain ⟨g2, H⟩ := H
  refine pt43 (s' := (9, [some (vr 1), some (vi x1), some (vi x2)], [vi (F 1 13), vi x2], (Wd S L F G h))) (by decide) [0, 0, 0] rfl ⟨trivial, ⟨Nat.le_of_ble_eq_true rfl, rfl⟩⟩ ?_
  by_cases c3 : (F 1 13) ≤ x2
  · rw [if_pos c3] at H
    refine pt43 (s' := (36, [some (vr 1), some (vi x1), some (vi x2)], [vi x1], (Wd S L F G h))) (by decide) [1, 0] rfl ⟨trivial, ⟨⟨g1, g2⟩, c3⟩⟩ ?_
    exact wp.fin (v := some (vi x1)) (by decide) am_m43 rfl ⟨_, rfl, Or.inl rfl, rfl⟩ H
  · rw [if_neg c3] at H
    refine pt43 (s' := (14, [some (vr 1), some (vi x1), some (vi x2)], [vi x2, vr 1], (Wd S L F G h))) (by decide) [0, 0, 0] rfl ⟨trivial, ⟨⟨g1, g2⟩, c3⟩⟩ ?_
    refine wp.cl am_m43 rfl am_m44 8 [vr 1, vi x2] [] rfl (Nat.le_of_ble_eq_true rfl) ⟨(Nat.le_of_ble_eq_true rfl), (Nat.le_of_ble_eq_true rfl)⟩ rfl (Nat.le_of_ble_eq_true rfl) rfl (Nat.le_of_ble_eq_true rfl) (Nat.le_of_ble_eq_true rfl) ⟨_, _, rfl, Nat.le_of_ble_eq_true rfl, rfl⟩ ?_
    refine wp.mono H ?_
    rintro v w1 ⟨v4, rfl, rfl, H⟩
    show wp 9 43 (17, [some (vr 1), some (vi x1), some (vi x2)], [vi v4], (Wd S L F G h)) _
    obtain ⟨g5, H⟩ := H
    by_cases c6 : v4 = 0
    · rw [if_pos c6] at H
      refine pt43 (s' := (4, [some (vr 1), some (vi x1), some (vi (x2 + 1))], [], (Wd S L F G h))) (by decide) [1, 0, 0] rfl ⟨trivial, ⟨g5, c6⟩⟩ ?_
      exact wp.weak (a := [some (vr 1), some (vi x1), some (vi (x2 + 1))]) ⟨rfl, rfl, rfl, trivial⟩ H
    · rw [if_neg c6] at H
      obtain ⟨g7, H⟩ := H
      refine pt43 (s' := (4, [some (vr 1), some (vi (x1 + (F 8 x2.toNat))), some (vi (x2 + 1))], [], (Wd S L F G h))) (by decide) [0, 0, 0, 8, 0, 0, 0, 0, 0, 0] rfl ⟨⟨⟨trivial, ⟨g5, c6⟩⟩, ⟨Nat.le_of_ble_eq_true rfl, rfl, hh _ _ _ rfl⟩⟩, (ix ⟨Nat.le_of_ble_eq_true rfl, rfl⟩ g7)⟩ ?_
      exact wp.weak (a := [some (vr 1), some (vi (x1 + (F 8 x2.toNat))), some (vi (x2 + 1))]) ⟨rfl, rfl, rfl, trivial⟩ H
