/-! the methods walked, by program (wip/whole/sym.py) -/
set_option maxRecDepth 100000 in
set_option maxHeartbeats 4000000 in
theorem T121_55 {S L : Nat} {F G : Nat → Nat → Int} {h : Nat → Nat → Option Nat} (hh : RfH h) {x1 : Int} {x2 : Int}  {Q : Option V2 → W2 → Prop}
    (H : (R32 x2 ∧
 R32 x1 ∧
 (if x1 ≤ x2 then
  Q (none) (Wd S L F G h)
 else
  ((0 ≤ (46 + x2) ∧ (46 + x2) < 134) ∧
  (0 ≤ (22 + (F 298 (46 + x2).toNat)) ∧ (22 + (F 298 (46 + x2).toNat)) < 134) ∧
  (0 ≤ (6 + (F 298 (22 + (F 298 (46 + x2).toNat)).toNat)) ∧ (6 + (F 298 (22 + (F 298 (46 + x2).toNat)).toNat)) < 134) ∧
  R32 (F 298 (6 + (F 298 (22 + (F 298 (46 + x2).toNat)).toNat)).toNat) ∧
  (if (F 298 (6 + (F 298 (22 + (F 298 (46 + x2).toNat)).toNat)).toNat) = 0 then
   ((0 ≤ x2 ∧ x2 < 12) ∧
   R32 (F 307 x2.toNat) ∧
   (if (F 307 x2.toNat) = 0 then
    (if x2 ≤ 0 then
     (R32 (x2 + 1) ∧
     (if x1 ≤ (x2 + 1) then
      C121_55 x1 (x2 + 1) (Wd S L (am_up (am_up (am_up F 308 x2.toNat 0) 309 x2.toNat 1) 307 x2.toNat 0) G h) Q
     else
      ((0 ≤ (x2 + 1) ∧ (x2 + 1) < 12) ∧
      R32 (F 307 (x2 + 1).toNat) ∧
      (if (F 307 (x2 + 1).toNat) ≤ 1 then
       C121_55 x1 (x2 + 1) (Wd S L (am_up (am_up (am_up F 308 x2.toNat 0) 309 x2.toNat 1) 307 x2.toNat 0) G h) Q
      else
       C121_55 x1 (x2 + 1) (Wd S L (am_up (am_up (am_up (am_up F 307 (x2 + 1).toNat ((F 307 (x2 + 1).toNat) - 1)) 308 x2.toNat 2) 309 x2.toNat 0) 307 x2.toNat 1) G h) Q))))
    else
     ((0 ≤ (x2 - 1) ∧ (x2 - 1) < 12) ∧
     R32 (F 307 (x2 - 1).toNat) ∧
     (if (F 307 (x2 - 1).toNat) ≤ 1 then
      (R32 (x2 + 1) ∧
      (if x1 ≤ (x2 + 1) then
       C121_55 x1 (x2 + 1) (Wd S L (am_up (am_up (am_up F 308 x2.toNat 0) 309 x2.toNat 1) 307 x2.toNat 0) G h) Q
      else
       ((0 ≤ (x2 + 1) ∧ (x2 + 1) < 12) ∧
       R32 (F 307 (x2 + 1).toNat) ∧
       (if (F 307 (x2 + 1).toNat) ≤ 1 then
        C121_55 x1 (x2 + 1) (Wd S L (am_up (am_up (am_up F 308 x2.toNat 0) 309 x2.toNat 1) 307 x2.toNat 0) G h) Q
       else
        C121_55 x1 (x2 + 1) (Wd S L (am_up (am_up (am_up (am_up F 307 (x2 + 1).toNat ((F 307 (x2 + 1).toNat) - 1)) 308 x2.toNat 2) 309 x2.toNat 0) 307 x2.toNat 1) G h) Q))))
     else
      C121_55 x1 (x2 + 1) (Wd S L (am_up (am_up (am_up (am_up F 307 (x2 - 1).toNat ((F 307 (x2 - 1).toNat) - 1)) 308 x2.toNat 1) 309 x2.toNat 0) 307 x2.toNat 1) G h) Q)))
   else
    C121_55 x1 (x2 + 1) (Wd S L F G h) Q))
  else
   C121_55 x1 (x2 + 1) (Wd S L F G h) Q))))) : C121_55 x1 x2 (Wd S L F G h) Q := by
  obtain ⟨g1, H⟩ := H
  obtain ⟨g2, H⟩ := H
  refine pt121 (s' := (57, [some (vr 297), some (vi x1), some (vi x2), none, none], [vi x1, vi x2], (Wd S L F G h))) (by decide) [0, 0] rfl trivial ?_
  by_cases c3 : x1 ≤ x2
  · rw [if_pos c3] at H
    refine pt121 (s' := (232, [some (vr 297), some (vi x1), some (vi x2), none, none], [], (Wd S L F G h))) (by decide) [1] rfl ⟨trivial, ⟨⟨g1, g2⟩, c3⟩⟩ ?_
    exact wp.fin (v := none) (by decide) am_m121 rfl ⟨rfl, rfl, rfl⟩ H
  · rw [if_neg c3] at H
    refine pt121 (s' := (62, [some (vr 297), some (vi x1), some (vi x2), none, none], [vi x2, vr 297], (Wd S L F G h))) (by decide) [0, 0, 0] rfl ⟨trivial, ⟨⟨g1, g2⟩, c3⟩⟩ ?_
    refine wp.cl am_m121 rfl am_m117 7 [vr 297, vi x2] [] rfl (Nat.le_of_ble_eq_true rfl) (Nat.le_of_ble_eq_true rfl) rfl (Nat.le_of_ble_eq_true rfl) rfl (Nat.le_of_ble_eq_true rfl) (Nat.le_of_ble_eq_true rfl) ⟨_, _, rfl, Nat.le_of_ble_eq_true rfl, rfl⟩ ?_
    refine pt117 (s' := (8, [some (vr 297), some (vi x2)], [vi x2, vr 297, vi 6, vr 298], (Wd S L F G h))) (by decide) [0, 298, 0, 0, 0] rfl ⟨trivial, ⟨Nat.le_of_ble_eq_true rfl, rfl, hh _ _ _ rfl⟩⟩ ?_
    refine wp.cl am_m117 rfl am_m116 6 [vr 297, vi x2] [vi 6, vr 298] rfl (Nat.le_of_ble_eq_true rfl) (Nat.le_of_ble_eq_true rfl) rfl (Nat.le_of_ble_eq_true rfl) rfl (Nat.le_of_ble_eq_true rfl) (Nat.le_of_ble_eq_true rfl) ⟨_, _, rfl, Nat.le_of_ble_eq_true rfl, rfl⟩ ?_
    obtain ⟨g4, H⟩ := H
    obtain ⟨g5, H⟩ := H
    refine pt116 (s' := (17, [some (vr 297), some (vi x2)], [vi (F 298 (22 + (F 298 (46 + x2).toNat)).toNat)], (Wd S L F G h))) (by decide) [0, 298, 0, 0, 298, 0, 0, 0, 0, 0, 0] rfl ⟨⟨⟨⟨trivial, ⟨Nat.le_of_ble_eq_true rfl, rfl, hh _ _ _ rfl⟩⟩, ⟨Nat.le_of_ble_eq_true rfl, rfl, hh _ _ _ rfl⟩⟩, (ix ⟨Nat.le_of_ble_eq_true rfl, rfl⟩ g4)⟩, (ix ⟨Nat.le_of_ble_eq_true rfl, rfl⟩ g5)⟩ ?_
    refine wp.fin (v := some (vi (F 298 (22 + (F 298 (46 + x2).toNat)).toNat))) (by decide) am_m116 rfl ⟨_, rfl, Or.inl rfl, rfl⟩ ?_
    show wp 7 117 (11, [some (vr 297), some (vi x2)], [vi (F 298 (22 + (F 298 (46 + x2).toNat)).toNat), vi 6, vr 298], (Wd S L F G h)) _
    obtain ⟨g6, H⟩ := H
    obtain ⟨g7, H⟩ := H
    refine pt117 (s' := (13, [some (vr 297), some (vi x2)], [vi (F 298 (6 + (F 298 (22 + (F 298 (46 + x2).toNat)).toNat)).toNat)], (Wd S L F G h))) (by decide) [0, 0] rfl ⟨trivial, (ix ⟨Nat.le_of_ble_eq_true rfl, rfl⟩ g6)⟩ ?_
    by_cases c8 : (F 298 (6 + (F 298 (22 + (F 298 (46 + x2).toNat)).toNat)).toNat) = 0
    · rw [if_pos c8] at H
      refine pt117 (s' := (21, [some (vr 297), some (vi x2)], [vi 1], (Wd S L F G h))) (by decide) [0, 0, 0] rfl ⟨trivial, ⟨g7, c8⟩⟩ ?_
      refine wp.fin (v := some (vi 1)) (by decide) am_m117 rfl ⟨_, rfl, Or.inr ⟨rfl, Or.inr rfl⟩, rfl⟩ ?_
      show wp 8 121 (65, [some (vr 297), some (vi x1), some (vi x2), none, none], [vi 1], (Wd S L F G h)) _
      obtain ⟨g9, H⟩ := H
      obtain ⟨g10, H⟩ := H
      refine pt121 (s' := (74, [some (vr 297), some (vi x1), some (vi x2), none, none], [vi (F 307 x2.toNat)], (Wd S L F G h))) (by decide) [0, 0, 307, 0, 0] rfl ⟨⟨⟨trivial, ⟨(by decide : R32 1), (by decide : ¬ (1 : Int) = (0 : Int))⟩⟩, ⟨Nat.le_of_ble_eq_true rfl, rfl, hh _ _ _ rfl⟩⟩, (ix ⟨Nat.le_of_ble_eq_true rfl, rfl⟩ g9)⟩ ?_
      by_cases c11 : (F 307 x2.toNat) = 0
      · rw [if_pos c11] at H
        refine pt121 (s' := (78, [some (vr 297), some (vi x1), some (vi x2), none, none], [vi x2], (Wd S L F G h))) (by decide) [0, 0] rfl ⟨trivial, ⟨g10, c11⟩⟩ ?_
        by_cases c12 : x2 ≤ 0
        · rw [if_pos c12] at H
          obtain ⟨g13, H⟩ := H
          refine pt121 (s' := (107, [some (vr 297), some (vi x1), some (vi x2), some (vi 0), none], [vi x1, vi (x2 + 1)], (Wd S L F G h))) (by decide) [1, 0, 0, 0, 0, 0, 0, 0, 0] rfl ⟨⟨trivial, ⟨g1, c12⟩⟩, ⟨(by decide : R32 0), (by decide : (0 : Int) = (0 : Int))⟩⟩ ?_
          by_cases c14 : x1 ≤ (x2 + 1)
          · rw [if_pos c14] at H
            refine pt121 (s' := (55, [some (vr 297), some (vi x1), some (vi (x2 + 1)), some (vi 0), some (vi 0)], [], (Wd S L (am_up (am_up (am_up F 308 x2.toNat 0) 309 x2.toNat 1) 307 x2.toNat 0) G h))) (by decide) [1, 0, 0, 0, 1, 0, 1, 0, 308, 0, 0, 1, 0, 1, 0, 0, 0, 309, 0, 0, 0, 0, 0, 0, 0, 0, 0, 307, 0, 0, 0, 0, 1, 0, 0, 0, 0] rfl ⟨⟨⟨⟨⟨⟨⟨⟨⟨⟨⟨⟨⟨⟨⟨trivial, ⟨⟨g13, g2⟩, c14⟩⟩, ⟨(by decide : R32 0), (by decide : (0 : Int) = (0 : Int))⟩⟩, ⟨(by decide : R32 0), (by decide : (0 : Int) = (0 : Int))⟩⟩, ⟨Nat.le_of_ble_eq_true rfl, rfl, hh _ _ _ rfl⟩⟩, ⟨(by decide : R32 0), (by decide : (0 : Int) = (0 : Int))⟩⟩, ⟨(by decide : R32 0), (by decide : (0 : Int) = (0 : Int))⟩⟩, (ix ⟨Nat.le_of_ble_eq_true rfl, rfl⟩ g9)⟩, ⟨Nat.le_of_ble_eq_true rfl, rfl, hh _ _ _ rfl⟩⟩, ⟨(by decide : R32 0), (by decide : (0 : Int) = (0 : Int))⟩⟩, ⟨(by decide : R32 0), (by decide : (0 : Int) = (0 : Int))⟩⟩, (ixz ⟨Nat.le_of_ble_eq_true rfl, rfl⟩ g9 (Or.inr rfl))⟩, ⟨Nat.le_of_ble_eq_true rfl, rfl, hh _ _ _ rfl⟩⟩, ⟨(by decide : R32 0), (by decide : (0 : Int) = (0 : Int))⟩⟩, ⟨(by decide : R32 0), (by decide : (0 : Int) = (0 : Int))⟩⟩, (ix ⟨Nat.le_of_ble_eq_true rfl, rfl⟩ g9)⟩ ?_
            exact wp.weak (a := [some (vr 297), some (vi x1), some (vi (x2 + 1)), none, none]) ⟨rfl, rfl, rfl, trivial⟩ H
          · rw [if_neg c14] at H
            obtain ⟨g15, H⟩ := H
            obtain ⟨g16, H⟩ := H
            refine pt121 (s' := (119, [some (vr 297), some (vi x1), some (vi x2), some (vi 0), none], [vi 1, vi (F 307 (x2 + 1).toNat)], (Wd S L F G h))) (by decide) [0, 0, 307, 0, 0, 0, 0, 0] rfl ⟨⟨⟨trivial, ⟨⟨g13, g2⟩, c14⟩⟩, ⟨Nat.le_of_ble_eq_true rfl, rfl, hh _ _ _ rfl⟩⟩, (ix ⟨Nat.le_of_ble_eq_true rfl, rfl⟩ g15)⟩ ?_
            by_cases c17 : (F 307 (x2 + 1).toNat) ≤ 1
            · rw [if_pos c17] at H
              refine pt121 (s' := (55, [some (vr 297), some (vi x1), some (vi (x2 + 1)), some (vi 0), some (vi 0)], [], (Wd S L (am_up (am_up (am_up F 308 x2.toNat 0) 309 x2.toNat 1) 307 x2.toNat 0) G h))) (by decide) [1, 0, 0, 0, 1, 0, 1, 0, 308, 0, 0, 1, 0, 1, 0, 0, 0, 309, 0, 0, 0, 0, 0, 0, 0, 0, 0, 307, 0, 0, 0, 0, 1, 0, 0, 0, 0] rfl ⟨⟨⟨⟨⟨⟨⟨⟨⟨⟨⟨⟨⟨⟨⟨trivial, ⟨⟨g16, (by decide : R32 1)⟩, c17⟩⟩, ⟨(by decide : R32 0), (by decide : (0 : Int) = (0 : Int))⟩⟩, ⟨(by decide : R32 0), (by decide : (0 : Int) = (0 : Int))⟩⟩, ⟨Nat.le_of_ble_eq_true rfl, rfl, hh _ _ _ rfl⟩⟩, ⟨(by decide : R32 0), (by decide : (0 : Int) = (0 : Int))⟩⟩, ⟨(by decide : R32 0), (by decide : (0 : Int) = (0 : Int))⟩⟩, (ix ⟨Nat.le_of_ble_eq_true rfl, rfl⟩ g9)⟩, ⟨Nat.le_of_ble_eq_true rfl, rfl, hh _ _ _ rfl⟩⟩, ⟨(by decide : R32 0), (by decide : (0 : Int) = (0 : Int))⟩⟩, ⟨(by decide : R32 0), (by decide : (0 : Int) = (0 : Int))⟩⟩, (ixz ⟨Nat.le_of_ble_eq_true rfl, rfl⟩ g9 (Or.inr rfl))⟩, ⟨Nat.le_of_ble_eq_true rfl, rfl, hh _ _ _ rfl⟩⟩, ⟨(by decide : R32 0), (by decide : (0 : Int) = (0 : Int))⟩⟩, ⟨(by decide : R32 0), (by decide : (0 : Int) = (0 : Int))⟩⟩, (ix ⟨Nat.le_of_ble_eq_true rfl, rfl⟩ g9)⟩ ?_
              exact wp.weak (a := [some (vr 297), some (vi x1), some (vi (x2 + 1)), none, none]) ⟨rfl, rfl, rfl, trivial⟩ H
            · rw [if_neg c17] at H
              refine pt121 (s' := (55, [some (vr 297), some (vi x1), some (vi (x2 + 1)), some (vi 0), some (vi 1)], [], (Wd S L (am_up (am_up (am_up (am_up F 307 (x2 + 1).toNat ((F 307 (x2 + 1).toNat) - 1)) 308 x2.toNat 2) 309 x2.toNat 0) 307 x2.toNat 1) G h))) (by decide) [0, 0, 0, 0, 0, 1, 0, 0, 0, 307, 0, 0, 0, 0, 0, 0, 0, 0, 0, 308, 0, 0, 1, 0, 0, 0, 0, 0, 0, 309, 0, 0, 0, 0, 1, 0, 0, 0, 307, 0, 0, 0, 0, 0, 0, 0, 0, 0, 0] rfl ⟨⟨⟨⟨⟨⟨⟨⟨⟨⟨⟨⟨⟨⟨⟨⟨⟨⟨trivial, ⟨⟨g16, (by decide : R32 1)⟩, c17⟩⟩, ⟨(by decide : R32 0), (by decide : (0 : Int) = (0 : Int))⟩⟩, ⟨(by decide : R32 1), (by decide : ¬ (1 : Int) = (0 : Int))⟩⟩, ⟨Nat.le_of_ble_eq_true rfl, rfl, hh _ _ _ rfl⟩⟩, (ix ⟨Nat.le_of_ble_eq_true rfl, rfl⟩ g15)⟩, (ix ⟨Nat.le_of_ble_eq_true rfl, rfl⟩ g15)⟩, ⟨Nat.le_of_ble_eq_true rfl, rfl, hh _ _ _ rfl⟩⟩, ⟨(by decide : R32 0), (by decide : (0 : Int) = (0 : Int))⟩⟩, ⟨(by decide : R32 1), (by decide : ¬ (1 : Int) = (0 : Int))⟩⟩, (ix ⟨Nat.le_of_ble_eq_true rfl, rfl⟩ g9)⟩, ⟨Nat.le_of_ble_eq_true rfl, rfl, hh _ _ _ rfl⟩⟩, ⟨(by decide : R32 0), (by decide : (0 : Int) = (0 : Int))⟩⟩, ⟨(by decide : R32 1), (by decide : ¬ (1 : Int) = (0 : Int))⟩⟩, (ixz ⟨Nat.le_of_ble_eq_true rfl, rfl⟩ g9 (Or.inl rfl))⟩, ⟨Nat.le_of_ble_eq_true rfl, rfl, hh _ _ _ rfl⟩⟩, ⟨(by decide : R32 0), (by decide : (0 : Int) = (0 : Int))⟩⟩, ⟨(by decide : R32 1), (by decide : ¬ (1 : Int) = (0 : Int))⟩⟩, (ix ⟨Nat.le_of_ble_eq_true rfl, rfl⟩ g9)⟩ ?_
              exact wp.weak (a := [some (vr 297), some (vi x1), some (vi (x2 + 1)), none, none]) ⟨rfl, rfl, rfl, trivial⟩ H
        · rw [if_neg c12] at H
          obtain ⟨g18, H⟩ := H
          obtain ⟨g19, H⟩ := H
          refine pt121 (s' := (90, [some (vr 297), some (vi x1), some (vi x2), none, none], [vi 1, vi (F 307 (x2 - 1).toNat)], (Wd S L F G h))) (by decide) [0, 0, 307, 0, 0, 0, 0, 0] rfl ⟨⟨⟨trivial, ⟨g1, c12⟩⟩, ⟨Nat.le_of_ble_eq_true rfl, rfl, hh _ _ _ rfl⟩⟩, (ix ⟨Nat.le_of_ble_eq_true rfl, rfl⟩ g18)⟩ ?_
          by_cases c20 : (F 307 (x2 - 1).toNat) ≤ 1
          · rw [if_pos c20] at H
            obtain ⟨g21, H⟩ := H
            refine pt121 (s' := (107, [some (vr 297), some (vi x1), some (vi x2), some (vi 0), none], [vi x1, vi (x2 + 1)], (Wd S L F G h))) (by decide) [1, 0, 0, 0, 0, 0, 0, 0, 0] rfl ⟨⟨trivial, ⟨⟨g19, (by decide : R32 1)⟩, c20⟩⟩, ⟨(by decide : R32 0), (by decide : (0 : Int) = (0 : Int))⟩⟩ ?_
            by_cases c22 : x1 ≤ (x2 + 1)
            · rw [if_pos c22] at H
              refine pt121 (s' := (55, [some (vr 297), some (vi x1), some (vi (x2 + 1)), some (vi 0), some (vi 0)], [], (Wd S L (am_up (am_up (am_up F 308 x2.toNat 0) 309 x2.toNat 1) 307 x2.toNat 0) G h))) (by decide) [1, 0, 0, 0, 1, 0, 1, 0, 308, 0, 0, 1, 0, 1, 0, 0, 0, 309, 0, 0, 0, 0, 0, 0, 0, 0, 0, 307, 0, 0, 0, 0, 1, 0, 0, 0, 0] rfl ⟨⟨⟨⟨⟨⟨⟨⟨⟨⟨⟨⟨⟨⟨⟨trivial, ⟨⟨g21, g2⟩, c22⟩⟩, ⟨(by decide : R32 0), (by decide : (0 : Int) = (0 : Int))⟩⟩, ⟨(by decide : R32 0), (by decide : (0 : Int) = (0 : Int))⟩⟩, ⟨Nat.le_of_ble_eq_true rfl, rfl, hh _ _ _ rfl⟩⟩, ⟨(by decide : R32 0), (by decide : (0 : Int) = (0 : Int))⟩⟩, ⟨(by decide : R32 0), (by decide : (0 : Int) = (0 : Int))⟩⟩, (ix ⟨Nat.le_of_ble_eq_true rfl, rfl⟩ g9)⟩, ⟨Nat.le_of_ble_eq_true rfl, rfl, hh _ _ _ rfl⟩⟩, ⟨(by decide : R32 0), (by decide : (0 : Int) = (0 : Int))⟩⟩, ⟨(by decide : R32 0), (by decide : (0 : Int) = (0 : Int))⟩⟩, (ixz ⟨Nat.le_of_ble_eq_true rfl, rfl⟩ g9 (Or.inr rfl))⟩, ⟨Nat.le_of_ble_eq_true rfl, rfl, hh _ _ _ rfl⟩⟩, ⟨(by decide : R32 0), (by decide : (0 : Int) = (0 : Int))⟩⟩, ⟨(by decide : R32 0), (by decide : (0 : Int) = (0 : Int))⟩⟩, (ix ⟨Nat.le_of_ble_eq_true rfl, rfl⟩ g9)⟩ ?_
              exact wp.weak (a := [some (vr 297), some (vi x1), some (vi (x2 + 1)), none, none]) ⟨rfl, rfl, rfl, trivial⟩ H
            · rw [if_neg c22] at H
              obtain ⟨g23, H⟩ := H
              obtain ⟨g24, H⟩ := H
              refine pt121 (s' := (119, [some (vr 297), some (vi x1), some (vi x2), some (vi 0), none], [vi 1, vi (F 307 (x2 + 1).toNat)], (Wd S L F G h))) (by decide) [0, 0, 307, 0, 0, 0, 0, 0] rfl ⟨⟨⟨trivial, ⟨⟨g21, g2⟩, c22⟩⟩, ⟨Nat.le_of_ble_eq_true rfl, rfl, hh _ _ _ rfl⟩⟩, (ix ⟨Nat.le_of_ble_eq_true rfl, rfl⟩ g23)⟩ ?_
              by_cases c25 : (F 307 (x2 + 1).toNat) ≤ 1
              · rw [if_pos c25] at H
                refine pt121 (s' := (55, [some (vr 297), some (vi x1), some (vi (x2 + 1)), some (vi 0), some (vi 0)], [], (Wd S L (am_up (am_up (am_up F 308 x2.toNat 0) 309 x2.toNat 1) 307 x2.toNat 0) G h))) (by decide) [1, 0, 0, 0, 1, 0, 1, 0, 308, 0, 0, 1, 0, 1, 0, 0, 0, 309, 0, 0, 0, 0, 0, 0, 0, 0, 0, 307, 0, 0, 0, 0, 1, 0, 0, 0, 0] rfl ⟨⟨⟨⟨⟨⟨⟨⟨⟨⟨⟨⟨⟨⟨⟨trivial, ⟨⟨g24, (by decide : R32 1)⟩, c25⟩⟩, ⟨(by decide : R32 0), (by decide : (0 : Int) = (0 : Int))⟩⟩, ⟨(by decide : R32 0), (by decide : (0 : Int) = (0 : Int))⟩⟩, ⟨Nat.le_of_ble_eq_true rfl, rfl, hh _ _ _ rfl⟩⟩, ⟨(by decide : R32 0), (by decide : (0 : Int) = (0 : Int))⟩⟩, ⟨(by decide : R32 0), (by decide : (0 : Int) = (0 : Int))⟩⟩, (ix ⟨Nat.le_of_ble_eq_true rfl, rfl⟩ g9)⟩, ⟨Nat.le_of_ble_eq_true rfl, rfl, hh _ _ _ rfl⟩⟩, ⟨(by decide : R32 0), (by decide : (0 : Int) = (0 : Int))⟩⟩, ⟨(by decide : R32 0), (by decide : (0 : Int) = (0 : Int))⟩⟩, (ixz ⟨Nat.le_of_ble_eq_true rfl, rfl⟩ g9 (Or.inr rfl))⟩, ⟨Nat.le_of_ble_eq_true rfl, rfl, hh _ _ _ rfl⟩⟩, ⟨(by decide : R32 0), (by decide : (0 : Int) = (0 : Int))⟩⟩, ⟨(by decide : R32 0), (by decide : (0 : Int) = (0 : Int))⟩⟩, (ix ⟨Nat.le_of_ble_eq_true rfl, rfl⟩ g9)⟩ ?_
                exact wp.weak (a := [some (vr 297), some (vi x1), some (vi (x2 + 1)), none, none]) ⟨rfl, rfl, rfl, trivial⟩ H
              · rw [if_neg c25] at H
                refine pt121 (s' := (55, [some (vr 297), some (vi x1), some (vi (x2 + 1)), some (vi 0), some (vi 1)], [], (Wd S L (am_up (am_up (am_up (am_up F 307 (x2 + 1).toNat ((F 307 (x2 + 1).toNat) - 1)) 308 x2.toNat 2) 309 x2.toNat 0) 307 x2.toNat 1) G h))) (by decide) [0, 0, 0, 0, 0, 1, 0, 0, 0, 307, 0, 0, 0, 0, 0, 0, 0, 0, 0, 308, 0, 0, 1, 0, 0, 0, 0, 0, 0, 309, 0, 0, 0, 0, 1, 0, 0, 0, 307, 0, 0, 0, 0, 0, 0, 0, 0, 0, 0] rfl ⟨⟨⟨⟨⟨⟨⟨⟨⟨⟨⟨⟨⟨⟨⟨⟨⟨⟨trivial, ⟨⟨g24, (by decide : R32 1)⟩, c25⟩⟩, ⟨(by decide : R32 0), (by decide : (0 : Int) = (0 : Int))⟩⟩, ⟨(by decide : R32 1), (by decide : ¬ (1 : Int) = (0 : Int))⟩⟩, ⟨Nat.le_of_ble_eq_true rfl, rfl, hh _ _ _ rfl⟩⟩, (ix ⟨Nat.le_of_ble_eq_true rfl, rfl⟩ g23)⟩, (ix ⟨Nat.le_of_ble_eq_true rfl, rfl⟩ g23)⟩, ⟨Nat.le_of_ble_eq_true rfl, rfl, hh _ _ _ rfl⟩⟩, ⟨(by decide : R32 0), (by decide : (0 : Int) = (0 : Int))⟩⟩, ⟨(by decide : R32 1), (by decide : ¬ (1 : Int) = (0 : Int))⟩⟩, (ix ⟨Nat.le_of_ble_eq_true rfl, rfl⟩ g9)⟩, ⟨Nat.le_of_ble_eq_true rfl, rfl, hh _ _ _ rfl⟩⟩, ⟨(by decide : R32 0), (by decide : (0 : Int) = (0 : Int))⟩⟩, ⟨(by decide : R32 1), (by decide : ¬ (1 : Int) = (0 : Int))⟩⟩, (ixz ⟨Nat.le_of_ble_eq_true rfl, rfl⟩ g9 (Or.inl rfl))⟩, ⟨Nat.le_of_ble_eq_true rfl, rfl, hh _ _ _ rfl⟩⟩, ⟨(by decide : R32 0), (by decide : (0 : Int) = (0 : Int))⟩⟩, ⟨(by decide : R32 1), (by decide : ¬ (1 : Int) = (0 : Int))⟩⟩, (ix ⟨Nat.le_of_ble_eq_true rfl, rfl⟩ g9)⟩ ?_
                exact wp.weak (a := [some (vr 297), some (vi x1), some (vi (x2 + 1)), none, none]) ⟨rfl, rfl, rfl, trivial⟩ H
          · rw [if_neg c20] at H
            refine pt121 (s' := (55, [some (vr 297), some (vi x1), some (vi (x2 + 1)), some (vi 1), some (vi 0)], [], (Wd S L (am_up (am_up (am_up (am_up F 307 (x2 - 1).toNat ((F 307 (x2 - 1).toNat) - 1)) 308 x2.toNat 1) 309 x2.toNat 0) 307 x2.toNat 1) G h))) (by decide) [0, 0, 0, 0, 0, 1, 0, 0, 0, 0, 0, 307, 0, 0, 0, 0, 0, 0, 0, 0, 0, 1, 0, 308, 0, 0, 0, 0, 0, 0, 0, 309, 0, 0, 1, 0, 0, 0, 307, 0, 0, 1, 0, 0, 0, 0, 0] rfl ⟨⟨⟨⟨⟨⟨⟨⟨⟨⟨⟨⟨⟨⟨⟨⟨trivial, ⟨⟨g19, (by decide : R32 1)⟩, c20⟩⟩, ⟨(by decide : R32 1), (by decide : ¬ (1 : Int) = (0 : Int))⟩⟩, ⟨(by decide : R32 1), (by decide : ¬ (1 : Int) = (0 : Int))⟩⟩, ⟨Nat.le_of_ble_eq_true rfl, rfl, hh _ _ _ rfl⟩⟩, (ix ⟨Nat.le_of_ble_eq_true rfl, rfl⟩ g18)⟩, (ix ⟨Nat.le_of_ble_eq_true rfl, rfl⟩ g18)⟩, ⟨(by decide : R32 0), (by decide : (0 : Int) = (0 : Int))⟩⟩, ⟨Nat.le_of_ble_eq_true rfl, rfl, hh _ _ _ rfl⟩⟩, ⟨(by decide : R32 1), (by decide : ¬ (1 : Int) = (0 : Int))⟩⟩, (ix ⟨Nat.le_of_ble_eq_true rfl, rfl⟩ g9)⟩, ⟨Nat.le_of_ble_eq_true rfl, rfl, hh _ _ _ rfl⟩⟩, ⟨(by decide : R32 1), (by decide : ¬ (1 : Int) = (0 : Int))⟩⟩, (ixz ⟨Nat.le_of_ble_eq_true rfl, rfl⟩ g9 (Or.inl rfl))⟩, ⟨Nat.le_of_ble_eq_true rfl, rfl, hh _ _ _ rfl⟩⟩, ⟨(by decide : R32 1), (by decide : ¬ (1 : Int) = (0 : Int))⟩⟩, (ix ⟨Nat.le_of_ble_eq_true rfl, rfl⟩ g9)⟩ ?_
            exact wp.weak (a := [some (vr 297), some (vi x1), some (vi (x2 + 1)), none, none]) ⟨rfl, rfl, rfl, trivial⟩ H
      · rw [if_neg c11] at H
        refine pt121 (s' := (55, [some (vr 297), some (vi x1), some (vi (x2 + 1)), none, none], [], (Wd S L F G h))) (by decide) [1, 0, 0] rfl ⟨trivial, ⟨g10, c11⟩⟩ ?_
        exact wp.weak (a := [some (vr 297), some (vi x1), some (vi (x2 + 1)), none, none]) ⟨rfl, rfl, rfl, trivial⟩ H
    · rw [if_neg c8] at H
      refine pt117 (s' := (21, [some (vr 297), some (vi x2)], [vi 0], (Wd S L F G h))) (by decide) [1, 0] rfl ⟨trivial, ⟨g7, c8⟩⟩ ?_
      refine wp.fin (v := some (vi 0)) (by decide) am_m117 rfl ⟨_, rfl, Or.inr ⟨rfl, Or.inl rfl⟩, rfl⟩ ?_
      show wp 8 121 (65, [some (vr 297), some (vi x1), some (vi x2), none, none], [vi 0], (Wd S L F G h)) _
      refine pt121 (s' := (55, [some (vr 297), some (vi x1), some (vi (x2 + 1)), none, none], [], (Wd S L F G h))) (by decide) [1, 0, 0] rfl ⟨trivial, ⟨(by decide : R32 0), (by decide : (0 : Int) = (0 : Int))⟩⟩ ?_
      exact wp.weak (a := [some (vr 297), some (vi x1), some (vi (x2 + 1)), none, none]) ⟨rfl, rfl, rfl, trivial⟩ H
set_option maxRecDepth 100000 in
set_option maxHeartbeats 4000000 in
theorem T123_0 {S L : Nat} {F G : Nat → Nat → Int} {h : Nat → Nat → Option Nat} (hh : RfH h) {a1 : Int}  {Q : Option V2 → W2 → Prop}
    (H : C123_4 a1 0 0 (Wd S L F G h) Q) : C123_0 a1 (Wd S L F G h) Q := by
  refine pt123 (s' := (4, [some (vr 297), some (vi a1), some (vi 0), some (vi 0)], [], (Wd S L F G h))) (by decide) [0, 0, 0, 0] rfl trivial ?_
  exact wp.weak (a := [some (vr 297), some (vi a1), some (vi 0), some (vi 0)]) ⟨rfl, rfl, rfl, rfl, trivial⟩ H
set_option maxRecDepth 100000 in
set_option maxHeartbeats 4000000 in
theorem T123_4 {S L : Nat} {F G : Nat → Nat → Int} {h : Nat → Nat → Option Nat} (hh : RfH h) {x1 : Int} {x2 : Int} {x3 : Int}  {Q : Option V2 → W2 → Prop}
    (H : (R32 x3 ∧
 R32 x1 ∧
 (if x1 ≤ x3 then
  Q (some (vi x2)) (Wd S L F G h)
 else
  ((0 ≤ x3 ∧ x3 < 12) ∧
  C123_4 x1 (x2 + (F 307 x3.toNat)) (x3 + 1) (Wd S L F G h) Q)))) : C123_4 x1 x2 x3 (Wd S L F G h) Q := by
  obtain ⟨g1, H⟩ := H
  obtain ⟨g2, H⟩ := H
  refine pt123 (s' := (6, [some (vr 297), some (vi x1), some (vi x2), some (vi x3)], [vi x1, vi x3], (Wd S L F G h))) (by decide) [0, 0] rfl trivial ?_
  by_cases c3 : x1 ≤ x3
  · rw [if_pos c3] at H
    refine pt123 (s' := (25, [some (vr 297), some (vi x1), some (vi x2), some (vi x3)], [vi x2], (Wd S L F G h))) (by decide) [1, 0] rfl ⟨trivial, ⟨⟨g1, g2⟩, c3⟩⟩ ?_
    exact wp.fin (v := some (vi x2)) (by decide) am_m123 rfl ⟨_, rfl, Or.inl rfl, rfl⟩ H
  · rw [if_neg c3] at H
    obtain ⟨g4, H⟩ := H
    refine pt123 (s' := (4, [some (vr 297), some (vi x1), some (vi (x2 + (F 307 x3.toNat))), some (vi (x3 + 1))], [], (Wd S L F G h))) (by decide) [0, 0, 0, 307, 0, 0, 0, 0, 0, 0] rfl ⟨⟨⟨trivial, ⟨⟨g1, g2⟩, c3⟩⟩, ⟨Nat.le_of_ble_eq_true rfl, rfl, hh _ _ _ rfl⟩⟩, (ix ⟨Nat.le_of_ble_eq_true rfl, rfl⟩ g4)⟩ ?_
    exact wp.weak (a := [some (vr 297), some (vi x1), some (vi (x2 + (F 307 x3.toNat))), some (vi (x3 + 1))]) ⟨rfl, rfl, rfl, rfl, trivial⟩ H
set_option maxRecDepth 100000 in
set_option maxHeartbeats 4000000 in
theorem T124_0 {S L : Nat} {F G : Nat → Nat → Int} {h : Nat → Nat → Option Nat} (hh : RfH h) {a1 : Int}  {Q : Option V2 → W2 → Prop}
    (H : C124_4 0 a1 (Wd S L F G h) Q) : C124_0 a1 (Wd S L F G h) Q := by
  refine pt124 (s' := (4, [some (vr 297), some (vi a1), some (vi 0), some (vi a1)], [], (Wd S L F G h))) (by decide) [0, 0, 0, 0] rfl trivial ?_
  exact wp.weak (a := [some (vr 297), none, some (vi 0), some (vi a1)]) ⟨rfl, rfl, rfl, trivial⟩ H
set_option maxRecDepth 100000 in
set_option maxHeartbeats 4000000 in
theorem T124_4 {S L : Nat} {F G : Nat → Nat → Int} {h : Nat → Nat → Option Nat} (hh : RfH h) {x2 : Int} {x3 : Int}  {Q : Option V2 → W2 → Prop}
    (H : ((0 ≤ x2 ∧ x2 < 12) ∧
 R32 x3 ∧
 R32 (F 307 x2.toNat) ∧
 (if x3 < (F 307 x2.toNat) then
  Q (some (vi x2)) (Wd S L F G h)
 else
  C124_4 (x2 + 1) (x3 - (F 307 x2.toNat)) (Wd S L F G h) Q))) : C124_4 x2 x3 (Wd S L F G h) Q := by
  obtain ⟨g1, H⟩ := H
  obtain ⟨g2, H⟩ := H
  obtain ⟨g3, H⟩ := H
  refine pt124 (s' := (11, [some (vr 297), none, some (vi x2), some (vi x3)], [vi (F 307 x2.toNat), vi x3], (Wd S L F G h))) (by decide) [0, 0, 307, 0, 0] rfl ⟨⟨trivial, ⟨Nat.le_of_ble_eq_true rfl, rfl, hh _ _ _ rfl⟩⟩, (ix ⟨Nat.le_of_ble_eq_true rfl, rfl⟩ g1)⟩ ?_
  by_cases c4 : x3 < (F 307 x2.toNat)
  · rw [if_pos c4] at H
    refine pt124 (s' := (30, [some (vr 297), none, some (vi x2), some (vi x3)], [vi x2], (Wd S L F G h))) (by decide) [1, 0] rfl ⟨trivial, ⟨⟨g2, g3⟩, c4⟩⟩ ?_
    exact wp.fin (v := some (vi x2)) (by decide) am_m124 rfl ⟨_, rfl, Or.inl rfl, rfl⟩ H
  · rw [if_neg c4] at H
    refine pt124 (s' := (4, [some (vr 297), none, some (vi (x2 + 1)), some (vi (x3 - (F 307 x2.toNat)))], [], (Wd S L F G h))) (by decide) [0, 0, 0, 307, 0, 0, 0, 0, 0, 0] rfl ⟨⟨⟨trivial, ⟨⟨g2, g3⟩, c4⟩⟩, ⟨Nat.le_of_ble_eq_true rfl, rfl, hh _ _ _ rfl⟩⟩, (ix ⟨Nat.le_of_ble_eq_true rfl, rfl⟩ g1)⟩ ?_
    exact wp.weak (a := [some (vr 297), none, some (vi (x2 + 1)), some (vi (x3 - (F 307 x2.toNat)))]) ⟨rfl, rfl, rfl, trivial⟩ H
set_option maxRecDepth 100000 in
set_option maxHeartbeats 4000000 in
theorem T125_0 {S L : Nat} {F G : Nat → Nat → Int} {h : Nat → Nat → Option Nat} (hh : RfH h) {a1 : Int} {a2 : Int}  {Q : Option V2 → W2 → Prop}
    (H : (R32 a1 ∧
 (if a1 < 0 then
  Q (some (vi (-1))) (Wd S L F G h)
 else
  (if 11 < a1 then
   Q (some (vi (-1))) (Wd S L F G h)
  else
   ((0 ≤ (22 + a1) ∧ (22 + a1) < 134) ∧
   R32 a2 ∧
   (if a2 = 0 then
    Q (some (vi (F 298 (22 + a1).toNat))) (Wd S L F G h)
   else
   (if a2 = 1 then
    ((0 ≤ (34 + a1) ∧ (34 + a1) < 134) ∧
    Q (some (vi (F 298 (34 + a1).toNat))) (Wd S L F G h))
   else
   (if a2 = 2 then
    ((0 ≤ (6 + (F 298 (22 + a1).toNat)) ∧ (6 + (F 298 (22 + a1).toNat)) < 134) ∧
    Q (some (vi (F 298 (6 + (F 298 (22 + a1).toNat)).toNat))) (Wd S L F G h))
   else
   (if a2 = 3 then
    ((0 ≤ (14 + (F 298 (22 + a1).toNat)) ∧ (14 + (F 298 (22 + a1).toNat)) < 134) ∧
    Q (some (vi (F 298 (14 + (F 298 (22 + a1).toNat)).toNat))) (Wd S L F G h))
   else
   (if a2 = 4 then
    ((0 ≤ (6 + (F 298 (22 + a1).toNat)) ∧ (6 + (F 298 (22 + a1).toNat)) < 134) ∧
    R32 (F 298 (6 + (F 298 (22 + a1).toNat)).toNat) ∧
    (if (F 298 (6 + (F 298 (22 + a1).toNat)).toNat) = 0 then
     Q (some (vi 1)) (Wd S L F G h)
    else
     Q (some (vi 0)) (Wd S L F G h)))
   else
   Q (some (vi (-1))) (Wd S L F G h))))))))))) : C125_0 a1 a2 (Wd S L F G h) Q := by
  obtain ⟨g1, H⟩ := H
  refine pt125 (s' := (6, [some (vr 297), some (vi a1), some (vi a2), none], [vj 11, vj 0, vj a1], (Wd S L F G h))) (by decide) [0, 0, 0, 0] rfl ⟨trivial, g1⟩ ?_
  refine wp.cl am_m125 rfl am_m112 6 [vj a1, vj 0, vj 11] [] rfl (Nat.le_of_ble_eq_true rfl) (Nat.le_of_ble_eq_true rfl) rfl (Nat.le_of_ble_eq_true rfl) rfl (Nat.le_of_ble_eq_true rfl) (Nat.le_of_ble_eq_true rfl) trivial ?_
  refine pt112 (s' := (3, [some (vj a1), none, some (vj 0), none, some (vj 11), none], [vi (y_cmp a1 0)], (Wd S L F G h))) (by decide) [0, 0, 0] rfl ⟨trivial, ⟨(r64 g1), (by decide : R64 0)⟩⟩ ?_
  by_cases c2 : a1 < 0
  · rw [if_pos c2] at H
    refine pt112 (s' := (18, [some (vj a1), none, some (vj 0), none, some (vj 11), none], [vi 0], (Wd S L F G h))) (by decide) [1, 0] rfl ⟨trivial, ⟨y_cmp_r32, (y_cmp_lt.mpr c2)⟩⟩ ?_
    refine wp.fin (v := some (vi 0)) (by decide) am_m112 rfl ⟨_, rfl, Or.inr ⟨rfl, Or.inl rfl⟩, rfl⟩ ?_
    show wp 7 125 (9, [some (vr 297), some (vi a1), some (vi a2), none], [vi 0], (Wd S L F G h)) _
    refine pt125 (s' := (13, [some (vr 297), some (vi a1), some (vi a2), none], [vi (-1)], (Wd S L F G h))) (by decide) [0, 0] rfl ⟨trivial, ⟨(by decide : R32 0), (by decide : (0 : Int) = (0 : Int))⟩⟩ ?_
    exact wp.fin (v := some (vi (-1))) (by decide) am_m125 rfl ⟨_, rfl, Or.inl rfl, rfl⟩ H
  · rw [if_neg c2] at H
    refine pt112 (s' := (10, [some (vj a1), none, some (vj 0), none, some (vj 11), none], [vi (y_cmp a1 11)], (Wd S L F G h))) (by decide) [0, 0, 0, 0] rfl ⟨⟨trivial, ⟨y_cmp_r32, (fun e => c2 (y_cmp_lt.mp e))⟩⟩, ⟨(r64 g1), (by decide : R64 11)⟩⟩ ?_
    by_cases c3 : 11 < a1
    · rw [if_pos c3] at H
      refine pt112 (s' := (18, [some (vj a1), none, some (vj 0), none, some (vj 11), none], [vi 0], (Wd S L F G h))) (by decide) [1, 0] rfl ⟨trivial, ⟨y_cmp_r32, (y_cmp_gt.mpr c3)⟩⟩ ?_
      refine wp.fin (v := some (vi 0)) (by decide) am_m112 rfl ⟨_, rfl, Or.inr ⟨rfl, Or.inl rfl⟩, rfl⟩ ?_
      show wp 7 125 (9, [some (vr 297), some (vi a1), some (vi a2), none], [vi 0], (Wd S L F G h)) _
      refine pt125 (s' := (13, [some (vr 297), some (vi a1), some (vi a2), none], [vi (-1)], (Wd S L F G h))) (by decide) [0, 0] rfl ⟨trivial, ⟨(by decide : R32 0), (by decide : (0 : Int) = (0 : Int))⟩⟩ ?_
      exact wp.fin (v := some (vi (-1))) (by decide) am_m125 rfl ⟨_, rfl, Or.inl rfl, rfl⟩ H
    · rw [if_neg c3] at H
      refine pt112 (s' := (18, [some (vj a1), none, some (vj 0), none, some (vj 11), none], [vi 1], (Wd S L F G h))) (by decide) [0, 0, 0] rfl ⟨trivial, ⟨y_cmp_r32, (fun e => c3 (y_cmp_gt.mp e))⟩⟩ ?_
      refine wp.fin (v := some (vi 1)) (by decide) am_m112 rfl ⟨_, rfl, Or.inr ⟨rfl, Or.inr rfl⟩, rfl⟩ ?_
      show wp 7 125 (9, [some (vr 297), some (vi a1), some (vi a2), none], [vi 1], (Wd S L F G h)) _
      obtain ⟨g4, H⟩ := H
      obtain ⟨g5, H⟩ := H
      refine pt125 (s' := (25, [some (vr 297), some (vi a1), some (vi a2), some (vi (F 298 (22 + a1).toNat))], [vi a2], (Wd S L F G h))) (by decide) [1, 0, 298, 0, 0, 0, 0, 0, 0] rfl ⟨⟨⟨trivial, ⟨(by decide : R32 1), (by decide : ¬ (1 : Int) = (0 : Int))⟩⟩, ⟨Nat.le_of_ble_eq_true rfl, rfl, hh _ _ _ rfl⟩⟩, (ix ⟨Nat.le_of_ble_eq_true rfl, rfl⟩ g4)⟩ ?_
      by_cases c6 : a2 = 0
      · rw [if_pos c6] at H
        refine pt125 (s' := (61, [some (vr 297), some (vi a1), some (vi a2), some (vi (F 298 (22 + a1).toNat))], [vi (F 298 (22 + a1).toNat)], (Wd S L F G h))) (by decide) [1, 0] rfl ⟨trivial, ⟨g5, (by omega : ¬ a2 < 0), (by omega : ¬ 4 < a2), c6⟩⟩ ?_
        exact wp.fin (v := some (vi (F 298 (22 + a1).toNat))) (by decide) am_m125 rfl ⟨_, rfl, Or.inl rfl, rfl⟩ H
      · rw [if_neg c6] at H
        by_cases c7 : a2 = 1
        · rw [if_pos c7] at H
          obtain ⟨g8, H⟩ := H
          refine pt125 (s' := (71, [some (vr 297), some (vi a1), some (vi a2), some (vi (F 298 (22 + a1).toNat))], [vi (F 298 (34 + a1).toNat)], (Wd S L F G h))) (by decide) [2, 0, 298, 0, 0, 0, 0] rfl ⟨⟨⟨trivial, ⟨g5, (by omega : ¬ a2 < 0), (by omega : ¬ 4 < a2), c7⟩⟩, ⟨Nat.le_of_ble_eq_true rfl, rfl, hh _ _ _ rfl⟩⟩, (ix ⟨Nat.le_of_ble_eq_true rfl, rfl⟩ g8)⟩ ?_
          exact wp.fin (v := some (vi (F 298 (34 + a1).toNat))) (by decide) am_m125 rfl ⟨_, rfl, Or.inl rfl, rfl⟩ H
        · rw [if_neg c7] at H
          by_cases c9 : a2 = 2
          · rw [if_pos c9] at H
            obtain ⟨g10, H⟩ := H
            refine pt125 (s' := (81, [some (vr 297), some (vi a1), some (vi a2), some (vi (F 298 (22 + a1).toNat))], [vi (F 298 (6 + (F 298 (22 + a1).toNat)).toNat)], (Wd S L F G h))) (by decide) [3, 0, 298, 0, 0, 0, 0] rfl ⟨⟨⟨trivial, ⟨g5, (by omega : ¬ a2 < 0), (by omega : ¬ 4 < a2), c9⟩⟩, ⟨Nat.le_of_ble_eq_true rfl, rfl, hh _ _ _ rfl⟩⟩, (ix ⟨Nat.le_of_ble_eq_true rfl, rfl⟩ g10)⟩ ?_
            exact wp.fin (v := some (vi (F 298 (6 + (F 298 (22 + a1).toNat)).toNat))) (by decide) am_m125 rfl ⟨_, rfl, Or.inl rfl, rfl⟩ H
          · rw [if_neg c9] at H
            by_cases c11 : a2 = 3
            · rw [if_pos c11] at H
              obtain ⟨g12, H⟩ := H
              refine pt125 (s' := (91, [some (vr 297), some (vi a1), some (vi a2), some (vi (F 298 (22 + a1).toNat))], [vi (F 298 (14 + (F 298 (22 + a1).toNat)).toNat)], (Wd S L F G h))) (by decide) [4, 0, 298, 0, 0, 0, 0] rfl ⟨⟨⟨trivial, ⟨g5, (by omega : ¬ a2 < 0), (by omega : ¬ 4 < a2), c11⟩⟩, ⟨Nat.le_of_ble_eq_true rfl, rfl, hh _ _ _ rfl⟩⟩, (ix ⟨Nat.le_of_ble_eq_true rfl, rfl⟩ g12)⟩ ?_
              exact wp.fin (v := some (vi (F 298 (14 + (F 298 (22 + a1).toNat)).toNat))) (by decide) am_m125 rfl ⟨_, rfl, Or.inl rfl, rfl⟩ H
            · rw [if_neg c11] at H
              by_cases c13 : a2 = 4
              · rw [if_pos c13] at H
                obtain ⟨g14, H⟩ := H
                obtain ⟨g15, H⟩ := H
                refine pt125 (s' := (101, [some (vr 297), some (vi a1), some (vi a2), some (vi (F 298 (22 + a1).toNat))], [vi (F 298 (6 + (F 298 (22 + a1).toNat)).toNat)], (Wd S L F G h))) (by decide) [5, 0, 298, 0, 0, 0, 0] rfl ⟨⟨⟨trivial, ⟨g5, (by omega : ¬ a2 < 0), (by omega : ¬ 4 < a2), c13⟩⟩, ⟨Nat.le_of_ble_eq_true rfl, rfl, hh _ _ _ rfl⟩⟩, (ix ⟨Nat.le_of_ble_eq_true rfl, rfl⟩ g14)⟩ ?_
                by_cases c16 : (F 298 (6 + (F 298 (22 + a1).toNat)).toNat) = 0
                · rw [if_pos c16] at H
                  refine pt125 (s' := (109, [some (vr 297), some (vi a1), some (vi a2), some (vi (F 298 (22 + a1).toNat))], [vi 1], (Wd S L F G h))) (by decide) [0, 0, 0] rfl ⟨trivial, ⟨g15, c16⟩⟩ ?_
                  exact wp.fin (v := some (vi 1)) (by decide) am_m125 rfl ⟨_, rfl, Or.inl rfl, rfl⟩ H
                · rw [if_neg c16] at H
                  refine pt125 (s' := (109, [some (vr 297), some (vi a1), some (vi a2), some (vi (F 298 (22 + a1).toNat))], [vi 0], (Wd S L F G h))) (by decide) [1, 0] rfl ⟨trivial, ⟨g15, c16⟩⟩ ?_
                  exact wp.fin (v := some (vi 0)) (by decide) am_m125 rfl ⟨_, rfl, Or.inl rfl, rfl⟩ H
              · rw [if_neg c13] at H
                refine pt125 (s' := (111, [some (vr 297), some (vi a1), some (vi a2), some (vi (F 298 (22 + a1).toNat))], [vi (-1)], (Wd S L F G h))) (by decide) [0, 0] rfl ⟨trivial, ⟨g5, (by omega : a2 < 0 ∨ 4 < a2)⟩⟩ ?_
                exact wp.fin (v := some (vi (-1))) (by decide) am_m125 rfl ⟨_, rfl, Or.inl rfl, rfl⟩ H
set_option maxRecDepth 100000 in
set_option maxHeartbeats 4000000 in
theorem T126_0 {S L : Nat} {F G : Nat → Nat → Int} {h : Nat → Nat → Option Nat} (hh : RfH h) {a1 : Int} {a2 : Int}  {Q : Option V2 → W2 → Prop}
    (H : (R32 a1 ∧
 R32 ((F 298 0) - 1) ∧
 (if a1 < 0 then
  Q (some (vi (-1))) (Wd S L F G h)
 else
  (if ((F 298 0) - 1) < a1 then
   Q (some (vi (-1))) (Wd S L F G h)
  else
   C121_0  (Wd S L F G h) (fun v w1 => ∃ (F5 : Nat → Nat → Int), v = none ∧ w1 = (Wd S L F5 G h) ∧
    (R32 a2 ∧
    (if a2 = 0 then
     ((0 ≤ (46 + a1) ∧ (46 + a1) < 134) ∧
     Q (some (vi (F5 298 (46 + a1).toNat))) (Wd S L F5 G h))
    else
    (if a2 = 1 then
     ((0 ≤ (58 + a1) ∧ (58 + a1) < 134) ∧
     Q (some (vi (F5 298 (58 + a1).toNat))) (Wd S L F5 G h))
    else
    (if a2 = 2 then
     C118_0 a1 (Wd S L F5 G h) (fun v w1 => ∃ (v12 : Int), v = some (vi v12) ∧ w1 = (Wd S L F5 G h) ∧
      Q (some (vi v12)) (Wd S L F5 G h))
    else
    (if a2 = 3 then
     C123_0 a1 (Wd S L F5 G h) (fun v w1 => ∃ (v14 : Int), v = some (vi v14) ∧ w1 = (Wd S L F5 G h) ∧
      Q (some (vi v14)) (Wd S L F5 G h))
    else
    (if a2 = 4 then
     ((0 ≤ a1 ∧ a1 < 12) ∧
     Q (some (vi (F5 307 a1.toNat))) (Wd S L F5 G h))
    else
    (if a2 = 5 then
     ((0 ≤ a1 ∧ a1 < 12) ∧
     Q (some (vi (F5 308 a1.toNat))) (Wd S L F5 G h))
    else
    (if a2 = 6 then
     ((0 ≤ a1 ∧ a1 < 12) ∧
     R32 (F5 309 a1.toNat) ∧
     (if (F5 309 a1.toNat) = 0 then
      Q (some (vi 0)) (Wd S L F5 G h)
     else
      Q (some (vi 1)) (Wd S L F5 G h)))
    else
    Q (some (vi (-1))) (Wd S L F5 G h)))))))))))))) : C126_0 a1 a2 (Wd S L F G h) Q := by
  refine pt126 (s' := (2, [some (vr 297), some (vi a1), some (vi a2)], [vi a1, vr 297], (Wd S L F G h))) (by decide) [0, 0] rfl trivial ?_
  refine wp.cl am_m126 rfl am_m115 7 [vr 297, vi a1] [] rfl (Nat.le_of_ble_eq_true rfl) (Nat.le_of_ble_eq_true rfl) rfl (Nat.le_of_ble_eq_true rfl) rfl (Nat.le_of_ble_eq_true rfl) (Nat.le_of_ble_eq_true rfl) ⟨_, _, rfl, Nat.le_of_ble_eq_true rfl, rfl⟩ ?_
  obtain ⟨g1, H⟩ := H
  obtain ⟨g2, H⟩ := H
  refine pt115 (s' := (12, [some (vr 297), some (vi a1)], [vj ((F 298 0) - 1), vj 0, vj a1], (Wd S L F G h))) (by decide) [0, 0, 0, 0, 298, 0, 0, 0, 0, 0] rfl ⟨⟨⟨⟨trivial, g1⟩, ⟨Nat.le_of_ble_eq_true rfl, rfl, hh _ _ _ rfl⟩⟩, (ix ⟨Nat.le_of_ble_eq_true rfl, rfl⟩ (by decide : (0 : Int) ≤ 0 ∧ (0 : Int) < 134))⟩, g2⟩ ?_
  refine wp.cl am_m115 rfl am_m112 6 [vj a1, vj 0, vj ((F 298 0) - 1)] [] rfl (Nat.le_of_ble_eq_true rfl) (Nat.le_of_ble_eq_true rfl) rfl (Nat.le_of_ble_eq_true rfl) rfl (Nat.le_of_ble_eq_true rfl) (Nat.le_of_ble_eq_true rfl) trivial ?_
  refine pt112 (s' := (3, [some (vj a1), none, some (vj 0), none, some (vj ((F 298 0) - 1)), none], [vi (y_cmp a1 0)], (Wd S L F G h))) (by decide) [0, 0, 0] rfl ⟨trivial, ⟨(r64 g1), (by decide : R64 0)⟩⟩ ?_
  by_cases c3 : a1 < 0
  · rw [if_pos c3] at H
    refine pt112 (s' := (18, [some (vj a1), none, some (vj 0), none, some (vj ((F 298 0) - 1)), none], [vi 0], (Wd S L F G h))) (by decide) [1, 0] rfl ⟨trivial, ⟨y_cmp_r32, (y_cmp_lt.mpr c3)⟩⟩ ?_
    refine wp.fin (v := some (vi 0)) (by decide) am_m112 rfl ⟨_, rfl, Or.inr ⟨rfl, Or.inl rfl⟩, rfl⟩ ?_
    show wp 7 115 (15, [some (vr 297), some (vi a1)], [vi 0], (Wd S L F G h)) _
    refine wp.fin (v := some (vi 0)) (by decide) am_m115 rfl ⟨_, rfl, Or.inr ⟨rfl, Or.inl rfl⟩, rfl⟩ ?_
    show wp 9 126 (5, [some (vr 297), some (vi a1), some (vi a2)], [vi 0], (Wd S L F G h)) _
    refine pt126 (s' := (9, [some (vr 297), some (vi a1), some (vi a2)], [vi (-1)], (Wd S L F G h))) (by decide) [0, 0] rfl ⟨trivial, ⟨(by decide : R32 0), (by decide : (0 : Int) = (0 : Int))⟩⟩ ?_
    exact wp.fin (v := some (vi (-1))) (by decide) am_m126 rfl ⟨_, rfl, Or.inl rfl, rfl⟩ H
  · rw [if_neg c3] at H
    refine pt112 (s' := (10, [some (vj a1), none, some (vj 0), none, some (vj ((F 298 0) - 1)), none], [vi (y_cmp a1 ((F 298 0) - 1))], (Wd S L F G h))) (by decide) [0, 0, 0, 0] rfl ⟨⟨trivial, ⟨y_cmp_r32, (fun e => c3 (y_cmp_lt.mp e))⟩⟩, ⟨(r64 g1), (r64 g2)⟩⟩ ?_
    by_cases c4 : ((F 298 0) - 1) < a1
    · rw [if_pos c4] at H
      refine pt112 (s' := (18, [some (vj a1), none, some (vj 0), none, some (vj ((F 298 0) - 1)), none], [vi 0], (Wd S L F G h))) (by decide) [1, 0] rfl ⟨trivial, ⟨y_cmp_r32, (y_cmp_gt.mpr c4)⟩⟩ ?_
      refine wp.fin (v := some (vi 0)) (by decide) am_m112 rfl ⟨_, rfl, Or.inr ⟨rfl, Or.inl rfl⟩, rfl⟩ ?_
      show wp 7 115 (15, [some (vr 297), some (vi a1)], [vi 0], (Wd S L F G h)) _
      refine wp.fin (v := some (vi 0)) (by decide) am_m115 rfl ⟨_, rfl, Or.inr ⟨rfl, Or.inl rfl⟩, rfl⟩ ?_
      show wp 9 126 (5, [some (vr 297), some (vi a1), some (vi a2)], [vi 0], (Wd S L F G h)) _
      refine pt126 (s' := (9, [some (vr 297), some (vi a1), some (vi a2)], [vi (-1)], (Wd S L F G h))) (by decide) [0, 0] rfl ⟨trivial, ⟨(by decide : R32 0), (by decide : (0 : Int) = (0 : Int))⟩⟩ ?_
      exact wp.fin (v := some (vi (-1))) (by decide) am_m126 rfl ⟨_, rfl, Or.inl rfl, rfl⟩ H
    · rw [if_neg c4] at H
      refine pt112 (s' := (18, [some (vj a1), none, some (vj 0), none, some (vj ((F 298 0) - 1)), none], [vi 1], (Wd S L F G h))) (by decide) [0, 0, 0] rfl ⟨trivial, ⟨y_cmp_r32, (fun e => c4 (y_cmp_gt.mp e))⟩⟩ ?_
      refine wp.fin (v := some (vi 1)) (by decide) am_m112 rfl ⟨_, rfl, Or.inr ⟨rfl, Or.inr rfl⟩, rfl⟩ ?_
      show wp 7 115 (15, [some (vr 297), some (vi a1)], [vi 1], (Wd S L F G h)) _
      refine wp.fin (v := some (vi 1)) (by decide) am_m115 rfl ⟨_, rfl, Or.inr ⟨rfl, Or.inr rfl⟩, rfl⟩ ?_
      show wp 9 126 (5, [some (vr 297), some (vi a1), some (vi a2)], [vi 1], (Wd S L F G h)) _
      refine pt126 (s' := (11, [some (vr 297), some (vi a1), some (vi a2)], [vr 297], (Wd S L F G h))) (by decide) [1, 0] rfl ⟨trivial, ⟨(by decide : R32 1), (by decide : ¬ (1 : Int) = (0 : Int))⟩⟩ ?_
      refine wp.cl am_m126 rfl am_m121 8 [vr 297] [] rfl (Nat.le_of_ble_eq_true rfl) (Nat.le_of_ble_eq_true rfl) rfl (Nat.le_of_ble_eq_true rfl) rfl (Nat.le_of_ble_eq_true rfl) (Nat.le_of_ble_eq_true rfl) ⟨_, _, rfl, Nat.le_of_ble_eq_true rfl, rfl⟩ ?_
      refine wp.mono H ?_
      rintro v w1 ⟨F5, rfl, rfl, H⟩
      show wp 9 126 (14, [some (vr 297), some (vi a1), some (vi a2)], [], (Wd S L F5 G h)) _
      obtain ⟨g6, H⟩ := H
      refine pt126 (s' := (15, [some (vr 297), some (vi a1), some (vi a2)], [vi a2], (Wd S L F5 G h))) (by decide) [0] rfl trivial ?_
      by_cases c7 : a2 = 0
      · rw [if_pos c7] at H
        obtain ⟨g8, H⟩ := H
        refine pt126 (s' := (65, [some (vr 297), some (vi a1), some (vi a2)], [vi (F5 298 (46 + a1).toNat)], (Wd S L F5 G h))) (by decide) [1, 0, 298, 0, 0, 0, 0] rfl ⟨⟨⟨trivial, ⟨g6, (by omega : ¬ a2 < 0), (by omega : ¬ 6 < a2), c7⟩⟩, ⟨Nat.le_of_ble_eq_true rfl, rfl, hh _ _ _ rfl⟩⟩, (ix ⟨Nat.le_of_ble_eq_true rfl, rfl⟩ g8)⟩ ?_
        exact wp.fin (v := some (vi (F5 298 (46 + a1).toNat))) (by decide) am_m126 rfl ⟨_, rfl, Or.inl rfl, rfl⟩ H
      · rw [if_neg c7] at H
        by_cases c9 : a2 = 1
        · rw [if_pos c9] at H
          obtain ⟨g10, H⟩ := H
          refine pt126 (s' := (75, [some (vr 297), some (vi a1), some (vi a2)], [vi (F5 298 (58 + a1).toNat)], (Wd S L F5 G h))) (by decide) [2, 0, 298, 0, 0, 0, 0] rfl ⟨⟨⟨trivial, ⟨g6, (by omega : ¬ a2 < 0), (by omega : ¬ 6 < a2), c9⟩⟩, ⟨Nat.le_of_ble_eq_true rfl, rfl, hh _ _ _ rfl⟩⟩, (ix ⟨Nat.le_of_ble_eq_true rfl, rfl⟩ g10)⟩ ?_
          exact wp.fin (v := some (vi (F5 298 (58 + a1).toNat))) (by decide) am_m126 rfl ⟨_, rfl, Or.inl rfl, rfl⟩ H
        · rw [if_neg c9] at H
          by_cases c11 : a2 = 2
          · rw [if_pos c11] at H
            refine pt126 (s' := (78, [some (vr 297), some (vi a1), some (vi a2)], [vi a1, vr 297], (Wd S L F5 G h))) (by decide) [3, 0, 0] rfl ⟨trivial, ⟨g6, (by omega : ¬ a2 < 0), (by omega : ¬ 6 < a2), c11⟩⟩ ?_
            refine wp.cl am_m126 rfl am_m118 6 [vr 297, vi a1] [] rfl (Nat.le_of_ble_eq_true rfl) (Nat.le_of_ble_eq_true rfl) rfl (Nat.le_of_ble_eq_true rfl) rfl (Nat.le_of_ble_eq_true rfl) (Nat.le_of_ble_eq_true rfl) ⟨_, _, rfl, Nat.le_of_ble_eq_true rfl, rfl⟩ ?_
            refine wp.mono H ?_
            rintro v w1 ⟨v12, rfl, rfl, H⟩
            show wp 9 126 (81, [some (vr 297), some (vi a1), some (vi a2)], [vi v12], (Wd S L F5 G h)) _
            exact wp.fin (v := some (vi v12)) (by decide) am_m126 rfl ⟨_, rfl, Or.inl rfl, rfl⟩ H
          · rw [if_neg c11] at H
            by_cases c13 : a2 = 3
            · rw [if_pos c13] at H
              refine pt126 (s' := (84, [some (vr 297), some (vi a1), some (vi a2)], [vi a1, vr 297], (Wd S L F5 G h))) (by decide) [4, 0, 0] rfl ⟨trivial, ⟨g6, (by omega : ¬ a2 < 0), (by omega : ¬ 6 < a2), c13⟩⟩ ?_
              refine wp.cl am_m126 rfl am_m123 6 [vr 297, vi a1] [] rfl (Nat.le_of_ble_eq_true rfl) (Nat.le_of_ble_eq_true rfl) rfl (Nat.le_of_ble_eq_true rfl) rfl (Nat.le_of_ble_eq_true rfl) (Nat.le_of_ble_eq_true rfl) ⟨_, _, rfl, Nat.le_of_ble_eq_true rfl, rfl⟩ ?_
              refine wp.mono H ?_
              rintro v w1 ⟨v14, rfl, rfl, H⟩
              show wp 9 126 (87, [some (vr 297), some (vi a1), some (vi a2)], [vi v14], (Wd S L F5 G h)) _
              exact wp.fin (v := some (vi v14)) (by decide) am_m126 rfl ⟨_, rfl, Or.inl rfl, rfl⟩ H
            · rw [if_neg c13] at H
              by_cases c15 : a2 = 4
              · rw [if_pos c15] at H
                obtain ⟨g16, H⟩ := H
                refine pt126 (s' := (94, [some (vr 297), some (vi a1), some (vi a2)], [vi (F5 307 a1.toNat)], (Wd S L F5 G h))) (by decide) [5, 0, 307, 0, 0] rfl ⟨⟨⟨trivial, ⟨g6, (by omega : ¬ a2 < 0), (by omega : ¬ 6 < a2), c15⟩⟩, ⟨Nat.le_of_ble_eq_true rfl, rfl, hh _ _ _ rfl⟩⟩, (ix ⟨Nat.le_of_ble_eq_true rfl, rfl⟩ g16)⟩ ?_
                exact wp.fin (v := some (vi (F5 307 a1.toNat))) (by decide) am_m126 rfl ⟨_, rfl, Or.inl rfl, rfl⟩ H
              · rw [if_neg c15] at H
                by_cases c17 : a2 = 5
                · rw [if_pos c17] at H
                  obtain ⟨g18, H⟩ := H
                  refine pt126 (s' := (101, [some (vr 297), some (vi a1), some (vi a2)], [vi (F5 308 a1.toNat)], (Wd S L F5 G h))) (by decide) [6, 0, 308, 0, 0] rfl ⟨⟨⟨trivial, ⟨g6, (by omega : ¬ a2 < 0), (by omega : ¬ 6 < a2), c17⟩⟩, ⟨Nat.le_of_ble_eq_true rfl, rfl, hh _ _ _ rfl⟩⟩, (ix ⟨Nat.le_of_ble_eq_true rfl, rfl⟩ g18)⟩ ?_
                  exact wp.fin (v := some (vi (F5 308 a1.toNat))) (by decide) am_m126 rfl ⟨_, rfl, Or.inl rfl, rfl⟩ H
                · rw [if_neg c17] at H
                  by_cases c19 : a2 = 6
                  · rw [if_pos c19] at H
                    obtain ⟨g20, H⟩ := H
                    obtain ⟨g21, H⟩ := H
                    refine pt126 (s' := (108, [some (vr 297), some (vi a1), some (vi a2)], [vi (F5 309 a1.toNat)], (Wd S L F5 G h))) (by decide) [7, 0, 309, 0, 0] rfl ⟨⟨⟨trivial, ⟨g6, (by omega : ¬ a2 < 0), (by omega : ¬ 6 < a2), c19⟩⟩, ⟨Nat.le_of_ble_eq_true rfl, rfl, hh _ _ _ rfl⟩⟩, (ix ⟨Nat.le_of_ble_eq_true rfl, rfl⟩ g20)⟩ ?_
                    by_cases c22 : (F5 309 a1.toNat) = 0
                    · rw [if_pos c22] at H
                      refine pt126 (s' := (116, [some (vr 297), some (vi a1), some (vi a2)], [vi 0], (Wd S L F5 G h))) (by decide) [1, 0] rfl ⟨trivial, ⟨g21, c22⟩⟩ ?_
                      exact wp.fin (v := some (vi 0)) (by decide) am_m126 rfl ⟨_, rfl, Or.inl rfl, rfl⟩ H
                    · rw [if_neg c22] at H
                      refine pt126 (s' := (116, [some (vr 297), some (vi a1), some (vi a2)], [vi 1], (Wd S L F5 G h))) (by decide) [0, 0, 0] rfl ⟨trivial, ⟨g21, c22⟩⟩ ?_
                      exact wp.fin (v := some (vi 1)) (by decide) am_m126 rfl ⟨_, rfl, Or.inl rfl, rfl⟩ H
                  · rw [if_neg c19] at H
                    refine pt126 (s' := (118, [some (vr 297), some (vi a1), some (vi a2)], [vi (-1)], (Wd S L F5 G h))) (by decide) [0, 0] rfl ⟨trivial, ⟨g6, (by omega : a2 < 0 ∨ 6 < a2)⟩⟩ ?_
                    exact wp.fin (v := some (vi (-1))) (by decide) am_m126 rfl ⟨_, rfl, Or.inl rfl, rfl⟩ H
set_option maxRecDepth 100000 in
set_option maxHeartbeats 4000000 in
theorem T127_0 {S L : Nat} {F G : Nat → Nat → Int} {h : Nat → Nat → Option Nat} (hh : RfH h) {a1 : Int} {a2 : Int}  {Q : Option V2 → W2 → Prop}
    (H : (R32 a1 ∧
 C120_0 (F 298 0) (Wd S L F G h) (fun v w1 => ∃ (v2 : Int), v = some (vi v2) ∧ w1 = (Wd S L F G h) ∧
  (R32 (v2 - 1) ∧
  (if a1 < 0 then
   Q (some (vi (-1))) (Wd S L F G h)
  else
   (if (v2 - 1) < a1 then
    Q (some (vi (-1))) (Wd S L F G h)
   else
    (R32 a2 ∧
    (if a2 < 0 then
     Q (some (vi (-1))) (Wd S L F G h)
    else
     (if 1 < a2 then
      Q (some (vi (-1))) (Wd S L F G h)
     else
      C121_0  (Wd S L F G h) (fun v w1 => ∃ (F9 : Nat → Nat → Int), v = none ∧ w1 = (Wd S L F9 G h) ∧
       C124_0 a1 (Wd S L F9 G h) (fun v w1 => ∃ (v10 : Int), v = some (vi v10) ∧ w1 = (Wd S L F9 G h) ∧
        (if a2 = 0 then
         Q (some (vi v10)) (Wd S L F9 G h)
        else
         ((0 ≤ (46 + v10) ∧ (46 + v10) < 134) ∧
         (0 ≤ (22 + (F9 298 (46 + v10).toNat)) ∧ (22 + (F9 298 (46 + v10).toNat)) < 134) ∧
         Q (some (vi (F9 298 (22 + (F9 298 (46 + v10).toNat)).toNat))) (Wd S L F9 G h)))))))))))))) : C127_0 a1 a2 (Wd S L F G h) Q := by
  obtain ⟨g1, H⟩ := H
  refine pt127 (s' := (4, [some (vr 297), some (vi a1), some (vi a2), none], [vr 297, vj 0, vj a1], (Wd S L F G h))) (by decide) [0, 0, 0, 0] rfl ⟨trivial, g1⟩ ?_
  refine wp.cl am_m127 rfl am_m122 8 [vr 297] [vj 0, vj a1] rfl (Nat.le_of_ble_eq_true rfl) (Nat.le_of_ble_eq_true rfl) rfl (Nat.le_of_ble_eq_true rfl) rfl (Nat.le_of_ble_eq_true rfl) (Nat.le_of_ble_eq_true rfl) ⟨_, _, rfl, Nat.le_of_ble_eq_true rfl, rfl⟩ ?_
  refine pt122 (s' := (7, [some (vr 297)], [vi (F 298 0), vr 297], (Wd S L F G h))) (by decide) [0, 0, 298, 0, 0] rfl ⟨⟨trivial, ⟨Nat.le_of_ble_eq_true rfl, rfl, hh _ _ _ rfl⟩⟩, (ix ⟨Nat.le_of_ble_eq_true rfl, rfl⟩ (by decide : (0 : Int) ≤ 0 ∧ (0 : Int) < 134))⟩ ?_
  refine wp.cl am_m122 rfl am_m120 7 [vr 297, vi (F 298 0)] [] rfl (Nat.le_of_ble_eq_true rfl) (Nat.le_of_ble_eq_true rfl) rfl (Nat.le_of_ble_eq_true rfl) rfl (Nat.le_of_ble_eq_true rfl) (Nat.le_of_ble_eq_true rfl) ⟨_, _, rfl, Nat.le_of_ble_eq_true rfl, rfl⟩ ?_
  refine wp.mono H ?_
  rintro v w1 ⟨v2, rfl, rfl, H⟩
  show wp 8 122 (10, [some (vr 297)], [vi v2], (Wd S L F G h)) _
  refine wp.fin (v := some (vi v2)) (by decide) am_m122 rfl ⟨_, rfl, Or.inl rfl, rfl⟩ ?_
  show wp 9 127 (7, [some (vr 297), some (vi a1), some (vi a2), none], [vi v2, vj 0, vj a1], (Wd S L F G h)) _
  obtain ⟨g3, H⟩ := H
  refine pt127 (s' := (10, [some (vr 297), some (vi a1), some (vi a2), none], [vj (v2 - 1), vj 0, vj a1], (Wd S L F G h))) (by decide) [0, 0, 0] rfl ⟨trivial, g3⟩ ?_
  refine wp.cl am_m127 rfl am_m112 6 [vj a1, vj 0, vj (v2 - 1)] [] rfl (Nat.le_of_ble_eq_true rfl) (Nat.le_of_ble_eq_true rfl) rfl (Nat.le_of_ble_eq_true rfl) rfl (Nat.le_of_ble_eq_true rfl) (Nat.le_of_ble_eq_true rfl) trivial ?_
  refine pt112 (s' := (3, [some (vj a1), none, some (vj 0), none, some (vj (v2 - 1)), none], [vi (y_cmp a1 0)], (Wd S L F G h))) (by decide) [0, 0, 0] rfl ⟨trivial, ⟨(r64 g1), (by decide : R64 0)⟩⟩ ?_
  by_cases c4 : a1 < 0
  · rw [if_pos c4] at H
    refine pt112 (s' := (18, [some (vj a1), none, some (vj 0), none, some (vj (v2 - 1)), none], [vi 0], (Wd S L F G h))) (by decide) [1, 0] rfl ⟨trivial, ⟨y_cmp_r32, (y_cmp_lt.mpr c4)⟩⟩ ?_
    refine wp.fin (v := some (vi 0)) (by decide) am_m112 rfl ⟨_, rfl, Or.inr ⟨rfl, Or.inl rfl⟩, rfl⟩ ?_
    show wp 9 127 (13, [some (vr 297), some (vi a1), some (vi a2), none], [vi 0], (Wd S L F G h)) _
    refine pt127 (s' := (27, [some (vr 297), some (vi a1), some (vi a2), none], [vi (-1)], (Wd S L F G h))) (by decide) [1, 0] rfl ⟨trivial, ⟨(by decide : R32 0), (by decide : (0 : Int) = (0 : Int))⟩⟩ ?_
    exact wp.fin (v := some (vi (-1))) (by decide) am_m127 rfl ⟨_, rfl, Or.inl rfl, rfl⟩ H
  · rw [if_neg c4] at H
    refine pt112 (s' := (10, [some (vj a1), none, some (vj 0), none, some (vj (v2 - 1)), none], [vi (y_cmp a1 (v2 - 1))], (Wd S L F G h))) (by decide) [0, 0, 0, 0] rfl ⟨⟨trivial, ⟨y_cmp_r32, (fun e => c4 (y_cmp_lt.mp e))⟩⟩, ⟨(r64 g1), (r64 g3)⟩⟩ ?_
    by_cases c5 : (v2 - 1) < a1
    · rw [if_pos c5] at H
      refine pt112 (s' := (18, [some (vj a1), none, some (vj 0), none, some (vj (v2 - 1)), none], [vi 0], (Wd S L F G h))) (by decide) [1, 0] rfl ⟨trivial, ⟨y_cmp_r32, (y_cmp_gt.mpr c5)⟩⟩ ?_
      refine wp.fin (v := some (vi 0)) (by decide) am_m112 rfl ⟨_, rfl, Or.inr ⟨rfl, Or.inl rfl⟩, rfl⟩ ?_
      show wp 9 127 (13, [some (vr 297), some (vi a1), some (vi a2), none], [vi 0], (Wd S L F G h)) _
      refine pt127 (s' := (27, [some (vr 297), some (vi a1), some (vi a2), none], [vi (-1)], (Wd S L F G h))) (by decide) [1, 0] rfl ⟨trivial, ⟨(by decide : R32 0), (by decide : (0 : Int) = (0 : Int))⟩⟩ ?_
      exact wp.fin (v := some (vi (-1))) (by decide) am_m127 rfl ⟨_, rfl, Or.inl rfl, rfl⟩ H
    · rw [if_neg c5] at H
      refine pt112 (s' := (18, [some (vj a1), none, some (vj 0), none, some (vj (v2 - 1)), none], [vi 1], (Wd S L F G h))) (by decide) [0, 0, 0] rfl ⟨trivial, ⟨y_cmp_r32, (fun e => c5 (y_cmp_gt.mp e))⟩⟩ ?_
      refine wp.fin (v := some (vi 1)) (by decide) am_m112 rfl ⟨_, rfl, Or.inr ⟨rfl, Or.inr rfl⟩, rfl⟩ ?_
      show wp 9 127 (13, [some (vr 297), some (vi a1), some (vi a2), none], [vi 1], (Wd S L F G h)) _
      obtain ⟨g6, H⟩ := H
      refine pt127 (s' := (20, [some (vr 297), some (vi a1), some (vi a2), none], [vj 1, vj 0, vj a2], (Wd S L F G h))) (by decide) [0, 0, 0, 0, 0] rfl ⟨⟨trivial, ⟨(by decide : R32 1), (by decide : ¬ (1 : Int) = (0 : Int))⟩⟩, g6⟩ ?_
      refine wp.cl am_m127 rfl am_m112 6 [vj a2, vj 0, vj 1] [] rfl (Nat.le_of_ble_eq_true rfl) (Nat.le_of_ble_eq_true rfl) rfl (Nat.le_of_ble_eq_true rfl) rfl (Nat.le_of_ble_eq_true rfl) (Nat.le_of_ble_eq_true rfl) trivial ?_
      refine pt112 (s' := (3, [some (vj a2), none, some (vj 0), none, some (vj 1), none], [vi (y_cmp a2 0)], (Wd S L F G h))) (by decide) [0, 0, 0] rfl ⟨trivial, ⟨(r64 g6), (by decide : R64 0)⟩⟩ ?_
      by_cases c7 : a2 < 0
      · rw [if_pos c7] at H
        refine pt112 (s' := (18, [some (vj a2), none, some (vj 0), none, some (vj 1), none], [vi 0], (Wd S L F G h))) (by decide) [1, 0] rfl ⟨trivial, ⟨y_cmp_r32, (y_cmp_lt.mpr c7)⟩⟩ ?_
        refine wp.fin (v := some (vi 0)) (by decide) am_m112 rfl ⟨_, rfl, Or.inr ⟨rfl, Or.inl rfl⟩, rfl⟩ ?_
        show wp 9 127 (23, [some (vr 297), some (vi a1), some (vi a2), none], [vi 0], (Wd S L F G h)) _
        refine pt127 (s' := (27, [some (vr 297), some (vi a1), some (vi a2), none], [vi (-1)], (Wd S L F G h))) (by decide) [0, 0] rfl ⟨trivial, ⟨(by decide : R32 0), (by decide : (0 : Int) = (0 : Int))⟩⟩ ?_
        exact wp.fin (v := some (vi (-1))) (by decide) am_m127 rfl ⟨_, rfl, Or.inl rfl, rfl⟩ H
      · rw [if_neg c7] at H
        refine pt112 (s' := (10, [some (vj a2), none, some (vj 0), none, some (vj 1), none], [vi (y_cmp a2 1)], (Wd S L F G h))) (by decide) [0, 0, 0, 0] rfl ⟨⟨trivial, ⟨y_cmp_r32, (fun e => c7 (y_cmp_lt.mp e))⟩⟩, ⟨(r64 g6), (by decide : R64 1)⟩⟩ ?_
        by_cases c8 : 1 < a2
        · rw [if_pos c8] at H
          refine pt112 (s' := (18, [some (vj a2), none, some (vj 0), none, some (vj 1), none], [vi 0], (Wd S L F G h))) (by decide) [1, 0] rfl ⟨trivial, ⟨y_cmp_r32, (y_cmp_gt.mpr c8)⟩⟩ ?_
          refine wp.fin (v := some (vi 0)) (by decide) am_m112 rfl ⟨_, rfl, Or.inr ⟨rfl, Or.inl rfl⟩, rfl⟩ ?_
          show wp 9 127 (23, [some (vr 297), some (vi a1), some (vi a2), none], [vi 0], (Wd S L F G h)) _
          refine pt127 (s' := (27, [some (vr 297), some (vi a1), some (vi a2), none], [vi (-1)], (Wd S L F G h))) (by decide) [0, 0] rfl ⟨trivial, ⟨(by decide : R32 0), (by decide : (0 : Int) = (0 : Int))⟩⟩ ?_
          exact wp.fin (v := some (vi (-1))) (by decide) am_m127 rfl ⟨_, rfl, Or.inl rfl, rfl⟩ H
        · rw [if_neg c8] at H
          refine pt112 (s' := (18, [some (vj a2), none, some (vj 0), none, some (vj 1), none], [vi 1], (Wd S L F G h))) (by decide) [0, 0, 0] rfl ⟨trivial, ⟨y_cmp_r32, (fun e => c8 (y_cmp_gt.mp e))⟩⟩ ?_
          refine wp.fin (v := some (vi 1)) (by decide) am_m112 rfl ⟨_, rfl, Or.inr ⟨rfl, Or.inr rfl⟩, rfl⟩ ?_
          show wp 9 127 (23, [some (vr 297), some (vi a1), some (vi a2), none], [vi 1], (Wd S L F G h)) _
          refine pt127 (s' := (29, [some (vr 297), some (vi a1), some (vi a2), none], [vr 297], (Wd S L F G h))) (by decide) [1, 0] rfl ⟨trivial, ⟨(by decide : R32 1), (by decide : ¬ (1 : Int) = (0 : Int))⟩⟩ ?_
          refine wp.cl am_m127 rfl am_m121 8 [vr 297] [] rfl (Nat.le_of_ble_eq_true rfl) (Nat.le_of_ble_eq_true rfl) rfl (Nat.le_of_ble_eq_true rfl) rfl (Nat.le_of_ble_eq_true rfl) (Nat.le_of_ble_eq_true rfl) ⟨_, _, rfl, Nat.le_of_ble_eq_true rfl, rfl⟩ ?_
          refine wp.mono H ?_
          rintro v w1 ⟨F9, rfl, rfl, H⟩
          show wp 9 127 (32, [some (vr 297), some (vi a1), some (vi a2), none], [], (Wd S L F9 G h)) _
          refine pt127 (s' := (34, [some (vr 297), some (vi a1), some (vi a2), none], [vi a1, vr 297], (Wd S L F9 G h))) (by decide) [0, 0] rfl trivial ?_
          refine wp.cl am_m127 rfl am_m124 6 [vr 297, vi a1] [] rfl (Nat.le_of_ble_eq_true rfl) (Nat.le_of_ble_eq_true rfl) rfl (Nat.le_of_ble_eq_true rfl) rfl (Nat.le_of_ble_eq_true rfl) (Nat.le_of_ble_eq_true rfl) ⟨_, _, rfl, Nat.le_of_ble_eq_true rfl, rfl⟩ ?_
          refine wp.mono H ?_
          rintro v w1 ⟨v10, rfl, rfl, H⟩
          show wp 9 127 (37, [some (vr 297), some (vi a1), some (vi a2), none], [vi v10], (Wd S L F9 G h)) _
          refine pt127 (s' := (39, [some (vr 297), some (vi a1), some (vi a2), some (vi v10)], [vi a2], (Wd S L F9 G h))) (by decide) [0, 0] rfl trivial ?_
          by_cases c11 : a2 = 0
          · rw [if_pos c11] at H
            refine pt127 (s' := (51, [some (vr 297), some (vi a1), some (vi a2), some (vi v10)], [vi v10], (Wd S L F9 G h))) (by decide) [0, 0, 0] rfl ⟨trivial, ⟨g6, c11⟩⟩ ?_
            exact wp.fin (v := some (vi v10)) (by decide) am_m127 rfl ⟨_, rfl, Or.inl rfl, rfl⟩ H
          · rw [if_neg c11] at H
            refine pt127 (s' := (48, [some (vr 297), some (vi a1), some (vi a2), some (vi v10)], [vi v10, vr 297], (Wd S L F9 G h))) (by decide) [1, 0, 0] rfl ⟨trivial, ⟨g6, c11⟩⟩ ?_
            refine wp.cl am_m127 rfl am_m116 6 [vr 297, vi v10] [] rfl (Nat.le_of_ble_eq_true rfl) (Nat.le_of_ble_eq_true rfl) rfl (Nat.le_of_ble_eq_true rfl) rfl (Nat.le_of_ble_eq_true rfl) (Nat.le_of_ble_eq_true rfl) ⟨_, _, rfl, Nat.le_of_ble_eq_true rfl, rfl⟩ ?_
            obtain ⟨g12, H⟩ := H
            obtain ⟨g13, H⟩ := H
            refine pt116 (s' := (17, [some (vr 297), some (vi v10)], [vi (F9 298 (22 + (F9 298 (46 + v10).toNat)).toNat)], (Wd S L F9 G h))) (by decide) [0, 298, 0, 0, 298, 0, 0, 0, 0, 0, 0] rfl ⟨⟨⟨⟨trivial, ⟨Nat.le_of_ble_eq_true rfl, rfl, hh _ _ _ rfl⟩⟩, ⟨Nat.le_of_ble_eq_true rfl, rfl, hh _ _ _ rfl⟩⟩, (ix ⟨Nat.le_of_ble_eq_true rfl, rfl⟩ g12)⟩, (ix ⟨Nat.le_of_ble_eq_true rfl, rfl⟩ g13)⟩ ?_
            refine wp.fin (v := some (vi (F9 298 (22 + (F9 298 (46 + v10).toNat)).toNat))) (by decide) am_m116 rfl ⟨_, rfl, Or.inl rfl, rfl⟩ ?_
            show wp 9 127 (51, [some (vr 297), some (vi a1), some (vi a2), some (vi v10)], [vi (F9 298 (22 + (F9 298 (46 + v10).toNat)).toNat)], (Wd S L F9 G h)) _
            exact wp.fin (v := some (vi (F9 298 (22 + (F9 298 (46 + v10).toNat)).toNat))) (by decide) am_m127 rfl ⟨_, rfl, Or.inl rfl, rfl⟩ H
set_option maxRecDepth 100000 in
set_option maxHeartbeats 4000000 in
theorem T128_0 {S L : Nat} {F G : Nat → Nat → Int} {h : Nat → Nat → Option Nat} (hh : RfH h)   {Q : Option V2 → W2 → Prop}
    (H : C121_0  (Wd S L F G h) (fun v w1 => ∃ (F1 : Nat → Nat → Int), v = none ∧ w1 = (Wd S L F1 G h) ∧
  C128_27 0 (-4) 0 (Wd S L (am_up (am_up (am_up F1 297 15 0) 297 16 0) 297 17 (-4)) G h) Q)) : C128_0  (Wd S L F G h) Q := by
  refine pt128 (s' := (1, [some (vr 297), none, none, none, none], [vr 297], (Wd S L F G h))) (by decide) [0] rfl trivial ?_
  refine wp.cl am_m128 rfl am_m121 8 [vr 297] [] rfl (Nat.le_of_ble_eq_true rfl) (Nat.le_of_ble_eq_true rfl) rfl (Nat.le_of_ble_eq_true rfl) rfl (Nat.le_of_ble_eq_true rfl) (Nat.le_of_ble_eq_true rfl) ⟨_, _, rfl, Nat.le_of_ble_eq_true rfl, rfl⟩ ?_
  refine wp.mono H ?_
  rintro v w1 ⟨F1, rfl, rfl, H⟩
  show wp 9 128 (4, [some (vr 297), none, none, none, none], [], (Wd S L F1 G h)) _
  refine pt128 (s' := (27, [some (vr 297), some (vi 0), some (vi (-4)), some (vi 0), none], [], (Wd S L (am_up (am_up (am_up F1 297 15 0) 297 16 0) 297 17 (-4)) G h))) (by decide) [0, 0, 0, 0, 0, 0, 0, 0, 0, 0, 0, 0, 0, 0, 0] rfl ⟨⟨⟨trivial, ⟨Nat.le_of_ble_eq_true rfl, rfl, fun h => by cases h⟩⟩, ⟨Nat.le_of_ble_eq_true rfl, rfl, fun h => by cases h⟩⟩, ⟨Nat.le_of_ble_eq_true rfl, rfl, fun h => by cases h⟩⟩ ?_
  exact wp.weak (a := [some (vr 297), some (vi 0), some (vi (-4)), some (vi 0), none]) ⟨rfl, rfl, rfl, rfl, trivial⟩ H
set_option maxRecDepth 100000 in
set_option maxHeartbeats 4000000 in
theorem T128_27 {S L : Nat} {F G : Nat → Nat → Int} {h : Nat → Nat → Option Nat} (hh : RfH h) {x1 : Int} {x2 : Int} {x3 : Int}  {Q : Option V2 → W2 → Prop}
    (H : C120_0 (F 298 0) (Wd S L F G h) (fun v w1 => ∃ (v1 : Int), v = some (vi v1) ∧ w1 = (Wd S L F G h) ∧
  (R32 x3 ∧
  R32 v1 ∧
  (if v1 ≤ x3 then
   Q (none) (Wd S L F G h)
  else
   C124_0 x3 (Wd S L F G h) (fun v w1 => ∃ (v5 : Int), v = some (vi v5) ∧ w1 = (Wd S L F G h) ∧
    ((0 ≤ (46 + v5) ∧ (46 + v5) < 134) ∧
    (0 ≤ (22 + (F 298 (46 + v5).toNat)) ∧ (22 + (F 298 (46 + v5).toNat)) < 134) ∧
    R32 (F 298 (22 + (F 298 (46 + v5).toNat)).toNat) ∧
    R32 x2 ∧
    (if (F 298 (22 + (F 298 (46 + v5).toNat)).toNat) = x2 then
     (R32 (x1 + 1) ∧
     R32 (F 297 16) ∧
     (if (x1 + 1) ≤ (F 297 16) then
      C128_27 (x1 + 1) (F 298 (22 + (F 298 (46 + v5).toNat)).toNat) (x3 + 1) (Wd S L (am_up F 297 15 ((F 297 15) + 0)) G h) Q
     else
      C128_27 (x1 + 1) (F 298 (22 + (F 298 (46 + v5).toNat)).toNat) (x3 + 1) (Wd S L (am_up (am_up (am_up F 297 15 ((F 297 15) + 0)) 297 16 (x1 + 1)) 297 17 ((x3 - (x1 + 1)) + 1)) G h) Q))
    else
     (R32 (F 297 16) ∧
     (if 1 ≤ (F 297 16) then
      C128_27 1 (F 298 (22 + (F 298 (46 + v5).toNat)).toNat) (x3 + 1) (Wd S L (am_up F 297 15 ((F 297 15) + 1)) G h) Q
     else
      C128_27 1 (F 298 (22 + (F 298 (46 + v5).toNat)).toNat) (x3 + 1) (Wd S L (am_up (am_up (am_up F 297 15 ((F 297 15) + 1)) 297 16 1) 297 17 ((x3 - 1) + 1)) G h) Q))))))))) : C128_27 x1 x2 x3 (Wd S L F G h) Q := by
  refine pt128 (s' := (29, [some (vr 297), some (vi x1), some (vi x2), some (vi x3), none], [vr 297, vi x3], (Wd S L F G h))) (by decide) [0, 0] rfl trivial ?_
  refine wp.cl am_m128 rfl am_m122 8 [vr 297] [vi x3] rfl (Nat.le_of_ble_eq_true rfl) (Nat.le_of_ble_eq_true rfl) rfl (Nat.le_of_ble_eq_true rfl) rfl (Nat.le_of_ble_eq_true rfl) (Nat.le_of_ble_eq_true rfl) ⟨_, _, rfl, Nat.le_of_ble_eq_true rfl, rfl⟩ ?_
  refine pt122 (s' := (7, [some (vr 297)], [vi (F 298 0), vr 297], (Wd S L F G h))) (by decide) [0, 0, 298, 0, 0] rfl ⟨⟨trivial, ⟨Nat.le_of_ble_eq_true rfl, rfl, hh _ _ _ rfl⟩⟩, (ix ⟨Nat.le_of_ble_eq_true rfl, rfl⟩ (by decide : (0 : Int) ≤ 0 ∧ (0 : Int) < 134))⟩ ?_
  refine wp.cl am_m122 rfl am_m120 7 [vr 297, vi (F 298 0)] [] rfl (Nat.le_of_ble_eq_true rfl) (Nat.le_of_ble_eq_true rfl) rfl (Nat.le_of_ble_eq_true rfl) rfl (Nat.le_of_ble_eq_true rfl) (Nat.le_of_ble_eq_true rfl) ⟨_, _, rfl, Nat.le_of_ble_eq_true rfl, rfl⟩ ?_
  refine wp.mono H ?_
  rintro v w1 ⟨v1, rfl, rfl, H⟩
  show wp 8 122 (10, [some (vr 297)], [vi v1], (Wd S L F G h)) _
  refine wp.fin (v := some (vi v1)) (by decide) am_m122 rfl ⟨_, rfl, Or.inl rfl, rfl⟩ ?_
  show wp 9 128 (32, [some (vr 297), some (vi x1), some (vi x2), some (vi x3), none], [vi v1, vi x3], (Wd S L F G h)) _
  obtain ⟨g2, H⟩ := H
  obtain ⟨g3, H⟩ := H
  by_cases c4 : v1 ≤ x3
  · rw [if_pos c4] at H
    refine pt128 (s' := (111, [some (vr 297), some (vi x1), some (vi x2), some (vi x3), none], [], (Wd S L F G h))) (by decide) [1] rfl ⟨trivial, ⟨⟨g2, g3⟩, c4⟩⟩ ?_
    exact wp.fin (v := none) (by decide) am_m128 rfl ⟨rfl, rfl, rfl⟩ H
  · rw [if_neg c4] at H
    refine pt128 (s' := (38, [some (vr 297), some (vi x1), some (vi x2), some (vi x3), none], [vi x3, vr 297, vr 297], (Wd S L F G h))) (by decide) [0, 0, 0, 0] rfl ⟨trivial, ⟨⟨g2, g3⟩, c4⟩⟩ ?_
    refine wp.cl am_m128 rfl am_m124 6 [vr 297, vi x3] [vr 297] rfl (Nat.le_of_ble_eq_true rfl) (Nat.le_of_ble_eq_true rfl) rfl (Nat.le_of_ble_eq_true rfl) rfl (Nat.le_of_ble_eq_true rfl) (Nat.le_of_ble_eq_true rfl) ⟨_, _, rfl, Nat.le_of_ble_eq_true rfl, rfl⟩ ?_
    refine wp.mono H ?_
    rintro v w1 ⟨v5, rfl, rfl, H⟩
    show wp 9 128 (41, [some (vr 297), some (vi x1), some (vi x2), some (vi x3), none], [vi v5, vr 297], (Wd S L F G h)) _
    refine wp.cl am_m128 rfl am_m116 6 [vr 297, vi v5] [] rfl (Nat.le_of_ble_eq_true rfl) (Nat.le_of_ble_eq_true rfl) rfl (Nat.le_of_ble_eq_true rfl) rfl (Nat.le_of_ble_eq_true rfl) (Nat.le_of_ble_eq_true rfl) ⟨_, _, rfl, Nat.le_of_ble_eq_true rfl, rfl⟩ ?_
    obtain ⟨g6, H⟩ := H
    obtain ⟨g7, H⟩ := H
    refine pt116 (s' := (17, [some (vr 297), some (vi v5)], [vi (F 298 (22 + (F 298 (46 + v5).toNat)).toNat)], (Wd S L F G h))) (by decide) [0, 298, 0, 0, 298, 0, 0, 0, 0, 0, 0] rfl ⟨⟨⟨⟨trivial, ⟨Nat.le_of_ble_eq_true rfl, rfl, hh _ _ _ rfl⟩⟩, ⟨Nat.le_of_ble_eq_true rfl, rfl, hh _ _ _ rfl⟩⟩, (ix ⟨Nat.le_of_ble_eq_true rfl, rfl⟩ g6)⟩, (ix ⟨Nat.le_of_ble_eq_true rfl, rfl⟩ g7)⟩ ?_
    refine wp.fin (v := some (vi (F 298 (22 + (F 298 (46 + v5).toNat)).toNat))) (by decide) am_m116 rfl ⟨_, rfl, Or.inl rfl, rfl⟩ ?_
    show wp 9 128 (44, [some (vr 297), some (vi x1), some (vi x2), some (vi x3), none], [vi (F 298 (22 + (F 298 (46 + v5).toNat)).toNat)], (Wd S L F G h)) _
    obtain ⟨g8, H⟩ := H
    obtain ⟨g9, H⟩ := H
    refine pt128 (s' := (54, [some (vr 297), some (vi x1), some (vi x2), some (vi x3), some (vi (F 298 (22 + (F 298 (46 + v5).toNat)).toNat))], [vi x2, vi (F 298 (22 + (F 298 (46 + v5).toNat)).toNat), vi (F 297 15), vr 297], (Wd S L F G h))) (by decide) [0, 0, 0, 0, 0, 0] rfl ⟨trivial, ⟨Nat.le_of_ble_eq_true rfl, rfl⟩⟩ ?_
    by_cases c10 : (F 298 (22 + (F 298 (46 + v5).toNat)).toNat) = x2
    · rw [if_pos c10] at H
      obtain ⟨g11, H⟩ := H
      obtain ⟨g12, H⟩ := H
      refine pt128 (s' := (88, [some (vr 297), some (vi (x1 + 1)), some (vi (F 298 (22 + (F 298 (46 + v5).toNat)).toNat)), some (vi x3), some (vi (F 298 (22 + (F 298 (46 + v5).toNat)).toNat))], [vi (F 297 16), vi (x1 + 1)], (Wd S L (am_up F 297 15 ((F 297 15) + 0)) G h))) (by decide) [0, 0, 0, 0, 0, 0, 0, 0, 0, 0, 0, 0, 0, 0, 0, 0, 0, 0] rfl ⟨⟨⟨⟨trivial, ⟨⟨g8, g9⟩, c10⟩⟩, ⟨Nat.le_of_ble_eq_true rfl, rfl, fun h => by cases h⟩⟩, ⟨⟨g8, g9⟩, c10⟩⟩, ⟨Nat.le_of_ble_eq_true rfl, rfl⟩⟩ ?_
      by_cases c13 : (x1 + 1) ≤ (F 297 16)
      · rw [if_pos c13] at H
        refine pt128 (s' := (27, [some (vr 297), some (vi (x1 + 1)), some (vi (F 298 (22 + (F 298 (46 + v5).toNat)).toNat)), some (vi (x3 + 1)), some (vi (F 298 (22 + (F 298 (46 + v5).toNat)).toNat))], [], (Wd S L (am_up F 297 15 ((F 297 15) + 0)) G h))) (by decide) [1, 0, 0] rfl ⟨trivial, ⟨⟨g11, g12⟩, c13⟩⟩ ?_
        exact wp.weak (a := [some (vr 297), some (vi (x1 + 1)), some (vi (F 298 (22 + (F 298 (46 + v5).toNat)).toNat)), some (vi (x3 + 1)), none]) ⟨rfl, rfl, rfl, rfl, trivial⟩ H
      · rw [if_neg c13] at H
        refine pt128 (s' := (27, [some (vr 297), some (vi (x1 + 1)), some (vi (F 298 (22 + (F 298 (46 + v5).toNat)).toNat)), some (vi (x3 + 1)), some (vi (F 298 (22 + (F 298 (46 + v5).toNat)).toNat))], [], (Wd S L (am_up (am_up (am_up F 297 15 ((F 297 15) + 0)) 297 16 (x1 + 1)) 297 17 ((x3 - (x1 + 1)) + 1)) G h))) (by decide) [0, 0, 0, 0, 0, 0, 0, 0, 0, 0, 0, 0, 0] rfl ⟨⟨⟨trivial, ⟨⟨g11, g12⟩, c13⟩⟩, ⟨Nat.le_of_ble_eq_true rfl, rfl, fun h => by cases h⟩⟩, ⟨Nat.le_of_ble_eq_true rfl, rfl, fun h => by cases h⟩⟩ ?_
        exact wp.weak (a := [some (vr 297), some (vi (x1 + 1)), some (vi (F 298 (22 + (F 298 (46 + v5).toNat)).toNat)), some (vi (x3 + 1)), none]) ⟨rfl, rfl, rfl, rfl, trivial⟩ H
    · rw [if_neg c10] at H
      obtain ⟨g14, H⟩ := H
      refine pt128 (s' := (88, [some (vr 297), some (vi 1), some (vi (F 298 (22 + (F 298 (46 + v5).toNat)).toNat)), some (vi x3), some (vi (F 298 (22 + (F 298 (46 + v5).toNat)).toNat))], [vi (F 297 16), vi 1], (Wd S L (am_up F 297 15 ((F 297 15) + 1)) G h))) (by decide) [1, 0, 0, 0, 0, 0, 1, 0, 0, 0, 0, 0, 0, 0] rfl ⟨⟨⟨⟨trivial, ⟨⟨g8, g9⟩, c10⟩⟩, ⟨Nat.le_of_ble_eq_true rfl, rfl, fun h => by cases h⟩⟩, ⟨⟨g8, g9⟩, c10⟩⟩, ⟨Nat.le_of_ble_eq_true rfl, rfl⟩⟩ ?_
      by_cases c15 : 1 ≤ (F 297 16)
      · rw [if_pos c15] at H
        refine pt128 (s' := (27, [some (vr 297), some (vi 1), some (vi (F 298 (22 + (F 298 (46 + v5).toNat)).toNat)), some (vi (x3 + 1)), some (vi (F 298 (22 + (F 298 (46 + v5).toNat)).toNat))], [], (Wd S L (am_up F 297 15 ((F 297 15) + 1)) G h))) (by decide) [1, 0, 0] rfl ⟨trivial, ⟨⟨(by decide : R32 1), g14⟩, c15⟩⟩ ?_
        exact wp.weak (a := [some (vr 297), some (vi 1), some (vi (F 298 (22 + (F 298 (46 + v5).toNat)).toNat)), some (vi (x3 + 1)), none]) ⟨rfl, rfl, rfl, rfl, trivial⟩ H
      · rw [if_neg c15] at H
        refine pt128 (s' := (27, [some (vr 297), some (vi 1), some (vi (F 298 (22 + (F 298 (46 + v5).toNat)).toNat)), some (vi (x3 + 1)), some (vi (F 298 (22 + (F 298 (46 + v5).toNat)).toNat))], [], (Wd S L (am_up (am_up (am_up F 297 15 ((F 297 15) + 1)) 297 16 1) 297 17 ((x3 - 1) + 1)) G h))) (by decide) [0, 0, 0, 0, 0, 0, 0, 0, 0, 0, 0, 0, 0] rfl ⟨⟨⟨trivial, ⟨⟨(by decide : R32 1), g14⟩, c15⟩⟩, ⟨Nat.le_of_ble_eq_true rfl, rfl, fun h => by cases h⟩⟩, ⟨Nat.le_of_ble_eq_true rfl, rfl, fun h => by cases h⟩⟩ ?_
        exact wp.weak (a := [some (vr 297), some (vi 1), some (vi (F 298 (22 + (F 298 (46 + v5).toNat)).toNat)), some (vi (x3 + 1)), none]) ⟨rfl, rfl, rfl, rfl, trivial⟩ H
set_option maxRecDepth 100000 in
set_option maxHeartbeats 4000000 in
theorem T129_0 {S L : Nat} {F G : Nat → Nat → Int} {h : Nat → Nat → Option Nat} (hh : RfH h) {a1 : Int}  {Q : Option V2 → W2 → Prop}
    (H : C129_4 a1 0 0 (Wd S L F G h) Q) : C129_0 a1 (Wd S L F G h) Q := by
  refine pt129 (s' := (4, [some (vr 297), some (vi a1), some (vi 0), some (vi 0)], [], (Wd S L F G h))) (by decide) [0, 0, 0, 0] rfl trivial ?_
  exact wp.weak (a := [some (vr 297), some (vi a1), some (vi 0), some (vi 0)]) ⟨rfl, rfl, rfl, rfl, trivial⟩ H
set_option maxRecDepth 100000 in
set_option maxHeartbeats 4000000 in
theorem T129_4 {S L : Nat} {F G : Nat → Nat → Int} {h : Nat → Nat → Option Nat} (hh : RfH h) {x1 : Int} {x2 : Int} {x3 : Int}  {Q : Option V2 → W2 → Prop}
    (H : (R32 x3 ∧
 R32 (F 298 0) ∧
 (if (F 298 0) ≤ x3 then
  Q (some (vi x2)) (Wd S L F G h)
 else
  ((0 ≤ x3 ∧ x3 < 12) ∧
  R32 (F 307 x3.toNat) ∧
  (if (F 307 x3.toNat) = 0 then
   (R32 x1 ∧
   (if x1 = 0 then
    C129_4 x1 (x2 + 1) (x3 + 1) (Wd S L F G h) Q
   else
    (R32 (F 309 x3.toNat) ∧
    (if (F 309 x3.toNat) = 0 then
     C129_4 x1 (x2 + 0) (x3 + 1) (Wd S L F G h) Q
    else
     C129_4 x1 (x2 + 1) (x3 + 1) (Wd S L F G h) Q))))
  else
   C129_4 x1 (x2 + 0) (x3 + 1) (Wd S L F G h) Q))))) : C129_4 x1 x2 x3 (Wd S L F G h) Q := by
  obtain ⟨g1, H⟩ := H
  obtain ⟨g2, H⟩ := H
  refine pt129 (s' := (11, [some (vr 297), some (vi x1), some (vi x2), some (vi x3)], [vi (F 298 0), vi x3], (Wd S L F G h))) (by decide) [0, 0, 298, 0, 0] rfl ⟨⟨trivial, ⟨Nat.le_of_ble_eq_true rfl, rfl, hh _ _ _ rfl⟩⟩, (ix ⟨Nat.le_of_ble_eq_true rfl, rfl⟩ (by decide : (0 : Int) ≤ 0 ∧ (0 : Int) < 134))⟩ ?_
  by_cases c3 : (F 298 0) ≤ x3
  · rw [if_pos c3] at H
    refine pt129 (s' := (51, [some (vr 297), some (vi x1), some (vi x2), some (vi x3)], [vi x2], (Wd S L F G h))) (by decide) [1, 0] rfl ⟨trivial, ⟨⟨g1, g2⟩, c3⟩⟩ ?_
    exact wp.fin (v := some (vi x2)) (by decide) am_m129 rfl ⟨_, rfl, Or.inl rfl, rfl⟩ H
  · rw [if_neg c3] at H
    obtain ⟨g4, H⟩ := H
    obtain ⟨g5, H⟩ := H
    refine pt129 (s' := (21, [some (vr 297), some (vi x1), some (vi x2), some (vi x3)], [vi (F 307 x3.toNat), vi x2], (Wd S L F G h))) (by decide) [0, 0, 0, 307, 0, 0] rfl ⟨⟨⟨trivial, ⟨⟨g1, g2⟩, c3⟩⟩, ⟨Nat.le_of_ble_eq_true rfl, rfl, hh _ _ _ rfl⟩⟩, (ix ⟨Nat.le_of_ble_eq_true rfl, rfl⟩ g4)⟩ ?_
    by_cases c6 : (F 307 x3.toNat) = 0
    · rw [if_pos c6] at H
      obtain ⟨g7, H⟩ := H
      refine pt129 (s' := (25, [some (vr 297), some (vi x1), some (vi x2), some (vi x3)], [vi x1, vi x2], (Wd S L F G h))) (by decide) [0, 0] rfl ⟨trivial, ⟨g5, c6⟩⟩ ?_
      by_cases c8 : x1 = 0
      · rw [if_pos c8] at H
        refine pt129 (s' := (4, [some (vr 297), some (vi x1), some (vi (x2 + 1)), some (vi (x3 + 1))], [], (Wd S L F G h))) (by decide) [1, 0, 0, 0, 0, 0, 0] rfl ⟨trivial, ⟨g7, c8⟩⟩ ?_
        exact wp.weak (a := [some (vr 297), some (vi x1), some (vi (x2 + 1)), some (vi (x3 + 1))]) ⟨rfl, rfl, rfl, rfl, trivial⟩ H
      · rw [if_neg c8] at H
        obtain ⟨g9, H⟩ := H
        refine pt129 (s' := (34, [some (vr 297), some (vi x1), some (vi x2), some (vi x3)], [vi (F 309 x3.toNat), vi x2], (Wd S L F G h))) (by decide) [0, 0, 309, 0, 0] rfl ⟨⟨⟨trivial, ⟨g7, c8⟩⟩, ⟨Nat.le_of_ble_eq_true rfl, rfl, hh _ _ _ rfl⟩⟩, (ix ⟨Nat.le_of_ble_eq_true rfl, rfl⟩ g4)⟩ ?_
        by_cases c10 : (F 309 x3.toNat) = 0
        · rw [if_pos c10] at H
          refine pt129 (s' := (4, [some (vr 297), some (vi x1), some (vi (x2 + 0)), some (vi (x3 + 1))], [], (Wd S L F G h))) (by decide) [1, 0, 0, 0, 0, 0] rfl ⟨trivial, ⟨g9, c10⟩⟩ ?_
          exact wp.weak (a := [some (vr 297), some (vi x1), some (vi (x2 + 0)), some (vi (x3 + 1))]) ⟨rfl, rfl, rfl, rfl, trivial⟩ H
        · rw [if_neg c10] at H
          refine pt129 (s' := (4, [some (vr 297), some (vi x1), some (vi (x2 + 1)), some (vi (x3 + 1))], [], (Wd S L F G h))) (by decide) [0, 0, 0, 0, 0, 0, 0] rfl ⟨trivial, ⟨g9, c10⟩⟩ ?_
          exact wp.weak (a := [some (vr 297), some (vi x1), some (vi (x2 + 1)), some (vi (x3 + 1))]) ⟨rfl, rfl, rfl, rfl, trivial⟩ H
    · rw [if_neg c6] at H
      refine pt129 (s' := (4, [some (vr 297), some (vi x1), some (vi (x2 + 0)), some (vi (x3 + 1))], [], (Wd S L F G h))) (by decide) [1, 0, 0, 0, 0, 0] rfl ⟨trivial, ⟨g5, c6⟩⟩ ?_
      exact wp.weak (a := [some (vr 297), some (vi x1), some (vi (x2 + 0)), some (vi (x3 + 1))]) ⟨rfl, rfl, rfl, rfl, trivial⟩ H
set_option maxRecDepth 100000 in
set_option maxHeartbeats 4000000 in
theorem T130_0 {S L : Nat} {F G : Nat → Nat → Int} {h : Nat → Nat → Option Nat} (hh : RfH h) {a1 : Int}  {Q : Option V2 → W2 → Prop}
    (H : C128_0  (Wd S L F G h) (fun v w1 => ∃ (F1 : Nat → Nat → Int), v = none ∧ w1 = (Wd S L F1 G h) ∧
  (R32 a1 ∧
  (if a1 = 0 then
   Q (some (vi (F1 298 0))) (Wd S L F1 G h)
  else
  (if a1 = 1 then
   C120_0 (F1 298 0) (Wd S L F1 G h) (fun v w1 => ∃ (v5 : Int), v = some (vi v5) ∧ w1 = (Wd S L F1 G h) ∧
    Q (some (vi v5)) (Wd S L F1 G h))
  else
  (if a1 = 2 then
   C118_0 (F1 298 0) (Wd S L F1 G h) (fun v w1 => ∃ (v7 : Int), v = some (vi v7) ∧ w1 = (Wd S L F1 G h) ∧
    Q (some (vi v7)) (Wd S L F1 G h))
  else
  (if a1 = 3 then
   C129_0 0 (Wd S L F1 G h) (fun v w1 => ∃ (v9 : Int), v = some (vi v9) ∧ w1 = (Wd S L F1 G h) ∧
    Q (some (vi v9)) (Wd S L F1 G h))
  else
  (if a1 = 4 then
   C129_0 1 (Wd S L F1 G h) (fun v w1 => ∃ (v11 : Int), v = some (vi v11) ∧ w1 = (Wd S L F1 G h) ∧
    Q (some (vi v11)) (Wd S L F1 G h))
  else
  (if a1 = 5 then
   Q (some (vi (F1 297 15))) (Wd S L F1 G h)
  else
  (if a1 = 6 then
   Q (some (vi (F1 297 16))) (Wd S L F1 G h)
  else
  (if a1 = 7 then
   Q (some (vi (F1 297 17))) (Wd S L F1 G h)
  else
  (if a1 = 8 then
   Q (some (vi (F1 298 4))) (Wd S L F1 G h)
  else
  (if a1 = 9 then
   Q (some (vi (F1 298 1))) (Wd S L F1 G h)
  else
  (if a1 = 10 then
   Q (some (vi (F1 297 2))) (Wd S L F1 G h)
  else
  Q (some (vi (-1))) (Wd S L F1 G h))))))))))))))) : C130_0 a1 (Wd S L F G h) Q := by
  refine pt130 (s' := (1, [some (vr 297), some (vi a1)], [vr 297], (Wd S L F G h))) (by decide) [0] rfl trivial ?_
  refine wp.cl am_m130 rfl am_m128 9 [vr 297] [] rfl (Nat.le_of_ble_eq_true rfl) (Nat.le_of_ble_eq_true rfl) rfl (Nat.le_of_ble_eq_true rfl) rfl (Nat.le_of_ble_eq_true rfl) (Nat.le_of_ble_eq_true rfl) ⟨_, _, rfl, Nat.le_of_ble_eq_true rfl, rfl⟩ ?_
  refine wp.mono H ?_
  rintro v w1 ⟨F1, rfl, rfl, H⟩
  show wp 10 130 (4, [some (vr 297), some (vi a1)], [], (Wd S L F1 G h)) _
  obtain ⟨g2, H⟩ := H
  refine pt130 (s' := (5, [some (vr 297), some (vi a1)], [vi a1], (Wd S L F1 G h))) (by decide) [0] rfl trivial ?_
  by_cases c3 : a1 = 0
  · rw [if_pos c3] at H
    refine pt130 (s' := (70, [some (vr 297), some (vi a1)], [vi (F1 298 0)], (Wd S L F1 G h))) (by decide) [1, 0, 298, 0, 0] rfl ⟨⟨⟨trivial, ⟨g2, (by omega : ¬ a1 < 0), (by omega : ¬ 10 < a1), c3⟩⟩, ⟨Nat.le_of_ble_eq_true rfl, rfl, hh _ _ _ rfl⟩⟩, (ix ⟨Nat.le_of_ble_eq_true rfl, rfl⟩ (by decide : (0 : Int) ≤ 0 ∧ (0 : Int) < 134))⟩ ?_
    exact wp.fin (v := some (vi (F1 298 0))) (by decide) am_m130 rfl ⟨_, rfl, Or.inl rfl, rfl⟩ H
  · rw [if_neg c3] at H
    by_cases c4 : a1 = 1
    · rw [if_pos c4] at H
      refine pt130 (s' := (72, [some (vr 297), some (vi a1)], [vr 297], (Wd S L F1 G h))) (by decide) [2, 0] rfl ⟨trivial, ⟨g2, (by omega : ¬ a1 < 0), (by omega : ¬ 10 < a1), c4⟩⟩ ?_
      refine wp.cl am_m130 rfl am_m122 8 [vr 297] [] rfl (Nat.le_of_ble_eq_true rfl) (Nat.le_of_ble_eq_true rfl) rfl (Nat.le_of_ble_eq_true rfl) rfl (Nat.le_of_ble_eq_true rfl) (Nat.le_of_ble_eq_true rfl) ⟨_, _, rfl, Nat.le_of_ble_eq_true rfl, rfl⟩ ?_
      refine pt122 (s' := (7, [some (vr 297)], [vi (F1 298 0), vr 297], (Wd S L F1 G h))) (by decide) [0, 0, 298, 0, 0] rfl ⟨⟨trivial, ⟨Nat.le_of_ble_eq_true rfl, rfl, hh _ _ _ rfl⟩⟩, (ix ⟨Nat.le_of_ble_eq_true rfl, rfl⟩ (by decide : (0 : Int) ≤ 0 ∧ (0 : Int) < 134))⟩ ?_
      refine wp.cl am_m122 rfl am_m120 7 [vr 297, vi (F1 298 0)] [] rfl (Nat.le_of_ble_eq_true rfl) (Nat.le_of_ble_eq_true rfl) rfl (Nat.le_of_ble_eq_true rfl) rfl (Nat.le_of_ble_eq_true rfl) (Nat.le_of_ble_eq_true rfl) ⟨_, _, rfl, Nat.le_of_ble_eq_true rfl, rfl⟩ ?_
      refine wp.mono H ?_
      rintro v w1 ⟨v5, rfl, rfl, H⟩
      show wp 8 122 (10, [some (vr 297)], [vi v5], (Wd S L F1 G h)) _
      refine wp.fin (v := some (vi v5)) (by decide) am_m122 rfl ⟨_, rfl, Or.inl rfl, rfl⟩ ?_
      show wp 10 130 (75, [some (vr 297), some (vi a1)], [vi v5], (Wd S L F1 G h)) _
      exact wp.fin (v := some (vi v5)) (by decide) am_m130 rfl ⟨_, rfl, Or.inl rfl, rfl⟩ H
    · rw [if_neg c4] at H
      by_cases c6 : a1 = 2
      · rw [if_pos c6] at H
        refine pt130 (s' := (83, [some (vr 297), some (vi a1)], [vi (F1 298 0), vr 297], (Wd S L F1 G h))) (by decide) [3, 0, 0, 298, 0, 0] rfl ⟨⟨⟨trivial, ⟨g2, (by omega : ¬ a1 < 0), (by omega : ¬ 10 < a1), c6⟩⟩, ⟨Nat.le_of_ble_eq_true rfl, rfl, hh _ _ _ rfl⟩⟩, (ix ⟨Nat.le_of_ble_eq_true rfl, rfl⟩ (by decide : (0 : Int) ≤ 0 ∧ (0 : Int) < 134))⟩ ?_
        refine wp.cl am_m130 rfl am_m118 6 [vr 297, vi (F1 298 0)] [] rfl (Nat.le_of_ble_eq_true rfl) (Nat.le_of_ble_eq_true rfl) rfl (Nat.le_of_ble_eq_true rfl) rfl (Nat.le_of_ble_eq_true rfl) (Nat.le_of_ble_eq_true rfl) ⟨_, _, rfl, Nat.le_of_ble_eq_true rfl, rfl⟩ ?_
        refine wp.mono H ?_
        rintro v w1 ⟨v7, rfl, rfl, H⟩
        show wp 10 130 (86, [some (vr 297), some (vi a1)], [vi v7], (Wd S L F1 G h)) _
        exact wp.fin (v := some (vi v7)) (by decide) am_m130 rfl ⟨_, rfl, Or.inl rfl, rfl⟩ H
      · rw [if_neg c6] at H
        by_cases c8 : a1 = 3
        · rw [if_pos c8] at H
          refine pt130 (s' := (89, [some (vr 297), some (vi a1)], [vi 0, vr 297], (Wd S L F1 G h))) (by decide) [4, 0, 0] rfl ⟨trivial, ⟨g2, (by omega : ¬ a1 < 0), (by omega : ¬ 10 < a1), c8⟩⟩ ?_
          refine wp.cl am_m130 rfl am_m129 6 [vr 297, vi 0] [] rfl (Nat.le_of_ble_eq_true rfl) (Nat.le_of_ble_eq_true rfl) rfl (Nat.le_of_ble_eq_true rfl) rfl (Nat.le_of_ble_eq_true rfl) (Nat.le_of_ble_eq_true rfl) ⟨_, _, rfl, Nat.le_of_ble_eq_true rfl, rfl⟩ ?_
          refine wp.mono H ?_
          rintro v w1 ⟨v9, rfl, rfl, H⟩
          show wp 10 130 (92, [some (vr 297), some (vi a1)], [vi v9], (Wd S L F1 G h)) _
          exact wp.fin (v := some (vi v9)) (by decide) am_m130 rfl ⟨_, rfl, Or.inl rfl, rfl⟩ H
        · rw [if_neg c8] at H
          by_cases c10 : a1 = 4
          · rw [if_pos c10] at H
            refine pt130 (s' := (95, [some (vr 297), some (vi a1)], [vi 1, vr 297], (Wd S L F1 G h))) (by decide) [5, 0, 0] rfl ⟨trivial, ⟨g2, (by omega : ¬ a1 < 0), (by omega : ¬ 10 < a1), c10⟩⟩ ?_
            refine wp.cl am_m130 rfl am_m129 6 [vr 297, vi 1] [] rfl (Nat.le_of_ble_eq_true rfl) (Nat.le_of_ble_eq_true rfl) rfl (Nat.le_of_ble_eq_true rfl) rfl (Nat.le_of_ble_eq_true rfl) (Nat.le_of_ble_eq_true rfl) ⟨_, _, rfl, Nat.le_of_ble_eq_true rfl, rfl⟩ ?_
            refine wp.mono H ?_
            rintro v w1 ⟨v11, rfl, rfl, H⟩
            show wp 10 130 (98, [some (vr 297), some (vi a1)], [vi v11], (Wd S L F1 G h)) _
            exact wp.fin (v := some (vi v11)) (by decide) am_m130 rfl ⟨_, rfl, Or.inl rfl, rfl⟩ H
          · rw [if_neg c10] at H
            by_cases c12 : a1 = 5
            · rw [if_pos c12] at H
              refine pt130 (s' := (103, [some (vr 297), some (vi a1)], [vi (F1 297 15)], (Wd S L F1 G h))) (by decide) [6, 0, 0] rfl ⟨⟨trivial, ⟨g2, (by omega : ¬ a1 < 0), (by omega : ¬ 10 < a1), c12⟩⟩, ⟨Nat.le_of_ble_eq_true rfl, rfl⟩⟩ ?_
              exact wp.fin (v := some (vi (F1 297 15))) (by decide) am_m130 rfl ⟨_, rfl, Or.inl rfl, rfl⟩ H
            · rw [if_neg c12] at H
              by_cases c13 : a1 = 6
              · rw [if_pos c13] at H
                refine pt130 (s' := (108, [some (vr 297), some (vi a1)], [vi (F1 297 16)], (Wd S L F1 G h))) (by decide) [7, 0, 0] rfl ⟨⟨trivial, ⟨g2, (by omega : ¬ a1 < 0), (by omega : ¬ 10 < a1), c13⟩⟩, ⟨Nat.le_of_ble_eq_true rfl, rfl⟩⟩ ?_
                exact wp.fin (v := some (vi (F1 297 16))) (by decide) am_m130 rfl ⟨_, rfl, Or.inl rfl, rfl⟩ H
              · rw [if_neg c13] at H
                by_cases c14 : a1 = 7
                · rw [if_pos c14] at H
                  refine pt130 (s' := (113, [some (vr 297), some (vi a1)], [vi (F1 297 17)], (Wd S L F1 G h))) (by decide) [8, 0, 0] rfl ⟨⟨trivial, ⟨g2, (by omega : ¬ a1 < 0), (by omega : ¬ 10 < a1), c14⟩⟩, ⟨Nat.le_of_ble_eq_true rfl, rfl⟩⟩ ?_
                  exact wp.fin (v := some (vi (F1 297 17))) (by decide) am_m130 rfl ⟨_, rfl, Or.inl rfl, rfl⟩ H
                · rw [if_neg c14] at H
                  by_cases c15 : a1 = 8
                  · rw [if_pos c15] at H
                    refine pt130 (s' := (120, [some (vr 297), some (vi a1)], [vi (F1 298 4)], (Wd S L F1 G h))) (by decide) [9, 0, 298, 0, 0] rfl ⟨⟨⟨trivial, ⟨g2, (by omega : ¬ a1 < 0), (by omega : ¬ 10 < a1), c15⟩⟩, ⟨Nat.le_of_ble_eq_true rfl, rfl, hh _ _ _ rfl⟩⟩, (ix ⟨Nat.le_of_ble_eq_true rfl, rfl⟩ (by decide : (0 : Int) ≤ 4 ∧ (4 : Int) < 134))⟩ ?_
                    exact wp.fin (v := some (vi (F1 298 4))) (by decide) am_m130 rfl ⟨_, rfl, Or.inl rfl, rfl⟩ H
                  · rw [if_neg c15] at H
                    by_cases c16 : a1 = 9
                    · rw [if_pos c16] at H
                      refine pt130 (s' := (127, [some (vr 297), some (vi a1)], [vi (F1 298 1)], (Wd S L F1 G h))) (by decide) [10, 0, 298, 0, 0] rfl ⟨⟨⟨trivial, ⟨g2, (by omega : ¬ a1 < 0), (by omega : ¬ 10 < a1), c16⟩⟩, ⟨Nat.le_of_ble_eq_true rfl, rfl, hh _ _ _ rfl⟩⟩, (ix ⟨Nat.le_of_ble_eq_true rfl, rfl⟩ (by decide : (0 : Int) ≤ 1 ∧ (1 : Int) < 134))⟩ ?_
                      exact wp.fin (v := some (vi (F1 298 1))) (by decide) am_m130 rfl ⟨_, rfl, Or.inl rfl, rfl⟩ H
                    · rw [if_neg c16] at H
                      by_cases c17 : a1 = 10
                      · rw [if_pos c17] at H
                        refine pt130 (s' := (132, [some (vr 297), some (vi a1)], [vi (F1 297 2)], (Wd S L F1 G h))) (by decide) [11, 0, 0] rfl ⟨⟨trivial, ⟨g2, (by omega : ¬ a1 < 0), (by omega : ¬ 10 < a1), c17⟩⟩, ⟨Nat.le_of_ble_eq_true rfl, rfl⟩⟩ ?_
                        exact wp.fin (v := some (vi (F1 297 2))) (by decide) am_m130 rfl ⟨_, rfl, Or.inl rfl, rfl⟩ H
                      · rw [if_neg c17] at H
                        refine pt130 (s' := (134, [some (vr 297), some (vi a1)], [vi (-1)], (Wd S L F1 G h))) (by decide) [0, 0] rfl ⟨trivial, ⟨g2, (by omega : a1 < 0 ∨ 10 < a1)⟩⟩ ?_
                        exact wp.fin (v := some (vi (-1))) (by decide) am_m130 rfl ⟨_, rfl, Or.inl rfl, rfl⟩ H
set_option maxRecDepth 100000 in
set_option maxHeartbeats 4000000 in
theorem T131_0 {S L : Nat} {F G : Nat → Nat → Int} {h : Nat → Nat → Option Nat} (hh : RfH h) {a1 : Int} {a2 : Int}  {Q : Option V2 → W2 → Prop}
    (H : (R32 a2 ∧
 (if a2 = 0 then
  ((0 ≤ (46 + a1) ∧ (46 + a1) < 134) ∧
  (0 ≤ (22 + (F 298 (46 + a1).toNat)) ∧ (22 + (F 298 (46 + a1).toNat)) < 134) ∧
  (0 ≤ (6 + (F 298 (22 + (F 298 (46 + a1).toNat)).toNat)) ∧ (6 + (F 298 (22 + (F 298 (46 + a1).toNat)).toNat)) < 134) ∧
  Q (some (vi (F 298 (6 + (F 298 (22 + (F 298 (46 + a1).toNat)).toNat)).toNat))) (Wd S L F G h))
 else
  ((0 ≤ (46 + a1) ∧ (46 + a1) < 134) ∧
  (0 ≤ (22 + (F 298 (46 + a1).toNat)) ∧ (22 + (F 298 (46 + a1).toNat)) < 134) ∧
  (0 ≤ (14 + (F 298 (22 + (F 298 (46 + a1).toNat)).toNat)) ∧ (14 + (F 298 (22 + (F 298 (46 + a1).toNat)).toNat)) < 134) ∧
  Q (some (vi (F 298 (14 + (F 298 (22 + (F 298 (46 + a1).toNat)).toNat)).toNat))) (Wd S L F G h))))) : C131_0 a1 a2 (Wd S L F G h) Q := by
  obtain ⟨g1, H⟩ := H
  refine pt131 (s' := (5, [some (vr 297), some (vi a1), some (vi a2)], [vi a2, vr 298], (Wd S L F G h))) (by decide) [0, 298, 0] rfl ⟨trivial, ⟨Nat.le_of_ble_eq_true rfl, rfl, hh _ _ _ rfl⟩⟩ ?_
  by_cases c2 : a2 = 0
  · rw [if_pos c2] at H
    refine pt131 (s' := (17, [some (vr 297), some (vi a1), some (vi a2)], [vi a1, vr 297, vi 6, vr 298], (Wd S L F G h))) (by decide) [0, 0, 0, 0, 0] rfl ⟨trivial, ⟨g1, c2⟩⟩ ?_
    refine wp.cl am_m131 rfl am_m116 6 [vr 297, vi a1] [vi 6, vr 298] rfl (Nat.le_of_ble_eq_true rfl) (Nat.le_of_ble_eq_true rfl) rfl (Nat.le_of_ble_eq_true rfl) rfl (Nat.le_of_ble_eq_true rfl) (Nat.le_of_ble_eq_true rfl) ⟨_, _, rfl, Nat.le_of_ble_eq_true rfl, rfl⟩ ?_
    obtain ⟨g3, H⟩ := H
    obtain ⟨g4, H⟩ := H
    refine pt116 (s' := (17, [some (vr 297), some (vi a1)], [vi (F 298 (22 + (F 298 (46 + a1).toNat)).toNat)], (Wd S L F G h))) (by decide) [0, 298, 0, 0, 298, 0, 0, 0, 0, 0, 0] rfl ⟨⟨⟨⟨trivial, ⟨Nat.le_of_ble_eq_true rfl, rfl, hh _ _ _ rfl⟩⟩, ⟨Nat.le_of_ble_eq_true rfl, rfl, hh _ _ _ rfl⟩⟩, (ix ⟨Nat.le_of_ble_eq_true rfl, rfl⟩ g3)⟩, (ix ⟨Nat.le_of_ble_eq_true rfl, rfl⟩ g4)⟩ ?_
    refine wp.fin (v := some (vi (F 298 (22 + (F 298 (46 + a1).toNat)).toNat))) (by decide) am_m116 rfl ⟨_, rfl, Or.inl rfl, rfl⟩ ?_
    show wp 7 131 (20, [some (vr 297), some (vi a1), some (vi a2)], [vi (F 298 (22 + (F 298 (46 + a1).toNat)).toNat), vi 6, vr 298], (Wd S L F G h)) _
    obtain ⟨g5, H⟩ := H
    refine pt131 (s' := (22, [some (vr 297), some (vi a1), some (vi a2)], [vi (F 298 (6 + (F 298 (22 + (F 298 (46 + a1).toNat)).toNat)).toNat)], (Wd S L F G h))) (by decide) [0, 0] rfl ⟨trivial, (ix ⟨Nat.le_of_ble_eq_true rfl, rfl⟩ g5)⟩ ?_
    exact wp.fin (v := some (vi (F 298 (6 + (F 298 (22 + (F 298 (46 + a1).toNat)).toNat)).toNat))) (by decide) am_m131 rfl ⟨_, rfl, Or.inl rfl, rfl⟩ H
  · rw [if_neg c2] at H
    refine pt131 (s' := (17, [some (vr 297), some (vi a1), some (vi a2)], [vi a1, vr 297, vi 14, vr 298], (Wd S L F G h))) (by decide) [1, 0, 0, 0] rfl ⟨trivial, ⟨g1, c2⟩⟩ ?_
    refine wp.cl am_m131 rfl am_m116 6 [vr 297, vi a1] [vi 14, vr 298] rfl (Nat.le_of_ble_eq_true rfl) (Nat.le_of_ble_eq_true rfl) rfl (Nat.le_of_ble_eq_true rfl) rfl (Nat.le_of_ble_eq_true rfl) (Nat.le_of_ble_eq_true rfl) ⟨_, _, rfl, Nat.le_of_ble_eq_true rfl, rfl⟩ ?_
    obtain ⟨g6, H⟩ := H
    obtain ⟨g7, H⟩ := H
    refine pt116 (s' := (17, [some (vr 297), some (vi a1)], [vi (F 298 (22 + (F 298 (46 + a1).toNat)).toNat)], (Wd S L F G h))) (by decide) [0, 298, 0, 0, 298, 0, 0, 0, 0, 0, 0] rfl ⟨⟨⟨⟨trivial, ⟨Nat.le_of_ble_eq_true rfl, rfl, hh _ _ _ rfl⟩⟩, ⟨Nat.le_of_ble_eq_true rfl, rfl, hh _ _ _ rfl⟩⟩, (ix ⟨Nat.le_of_ble_eq_true rfl, rfl⟩ g6)⟩, (ix ⟨Nat.le_of_ble_eq_true rfl, rfl⟩ g7)⟩ ?_
    refine wp.fin (v := some (vi (F 298 (22 + (F 298 (46 + a1).toNat)).toNat))) (by decide) am_m116 rfl ⟨_, rfl, Or.inl rfl, rfl⟩ ?_
    show wp 7 131 (20, [some (vr 297), some (vi a1), some (vi a2)], [vi (F 298 (22 + (F 298 (46 + a1).toNat)).toNat), vi 14, vr 298], (Wd S L F G h)) _
    obtain ⟨g8, H⟩ := H
    refine pt131 (s' := (22, [some (vr 297), some (vi a1), some (vi a2)], [vi (F 298 (14 + (F 298 (22 + (F 298 (46 + a1).toNat)).toNat)).toNat)], (Wd S L F G h))) (by decide) [0, 0] rfl ⟨trivial, (ix ⟨Nat.le_of_ble_eq_true rfl, rfl⟩ g8)⟩ ?_
    exact wp.fin (v := some (vi (F 298 (14 + (F 298 (22 + (F 298 (46 + a1).toNat)).toNat)).toNat))) (by decide) am_m131 rfl ⟨_, rfl, Or.inl rfl, rfl⟩ H
set_option maxRecDepth 100000 in
set_option maxHeartbeats 4000000 in
theorem T133_0 {S L : Nat} {F G : Nat → Nat → Int} {h : Nat → Nat → Option Nat} (hh : RfH h) {a1 : Int} {a2 : Int}  {Q : Option V2 → W2 → Prop}
    (H : C131_0 a1 a2 (Wd S L F G h) (fun v w1 => ∃ (v1 : Int), v = some (vi v1) ∧ w1 = (Wd S L F G h) ∧
  C133_21 a1 a2 (a1 - 1) (Wd S L (am_up (am_up F 297 18 (3 * v1)) 297 19 3) G h) Q)) : C133_0 a1 a2 (Wd S L F G h) Q := by
  refine pt133 (s' := (5, [some (vr 297), some (vi a1), some (vi a2), none], [vi a2, vi a1, vr 297, vi 3, vr 297], (Wd S L F G h))) (by decide) [0, 0, 0, 0, 0] rfl trivial ?_
  refine wp.cl am_m133 rfl am_m131 7 [vr 297, vi a1, vi a2] [vi 3, vr 297] rfl (Nat.le_of_ble_eq_true rfl) (Nat.le_of_ble_eq_true rfl) rfl (Nat.le_of_ble_eq_true rfl) rfl (Nat.le_of_ble_eq_true rfl) (Nat.le_of_ble_eq_true rfl) ⟨_, _, rfl, Nat.le_of_ble_eq_true rfl, rfl⟩ ?_
  refine wp.mono H ?_
  rintro v w1 ⟨v1, rfl, rfl, H⟩
  show wp 8 133 (8, [some (vr 297), some (vi a1), some (vi a2), none], [vi v1, vi 3, vr 297], (Wd S L F G h)) _
  refine pt133 (s' := (21, [some (vr 297), some (vi a1), some (vi a2), some (vi (a1 - 1))], [], (Wd S L (am_up (am_up F 297 18 (3 * v1)) 297 19 3) G h))) (by decide) [0, 0, 0, 0, 0, 0, 0, 0, 0] rfl ⟨⟨trivial, ⟨Nat.le_of_ble_eq_true rfl, rfl, fun h => by cases h⟩⟩, ⟨Nat.le_of_ble_eq_true rfl, rfl, fun h => by cases h⟩⟩ ?_
  exact wp.weak (a := [some (vr 297), some (vi a1), some (vi a2), some (vi (a1 - 1))]) ⟨rfl, rfl, rfl, rfl, trivial⟩ H
set_option maxRecDepth 100000 in
set_option maxHeartbeats 4000000 in
theorem T133_21 {S L : Nat} {F G : Nat → Nat → Int} {h : Nat → Nat → Option Nat} (hh : RfH h) {x1 : Int} {x2 : Int} {x3 : Int}  {Q : Option V2 → W2 → Prop}
    (H : (R32 x3 ∧
 R32 (x1 + 1) ∧
 (if (x1 + 1) < x3 then
  (R32 x2 ∧
  (if x2 = 0 then
   ((0 ≤ (46 + x1) ∧ (46 + x1) < 134) ∧
   (0 ≤ (22 + (F 298 (46 + x1).toNat)) ∧ (22 + (F 298 (46 + x1).toNat)) < 134) ∧
   (0 ≤ (6 + (F 298 (22 + (F 298 (46 + x1).toNat)).toNat)) ∧ (6 + (F 298 (22 + (F 298 (46 + x1).toNat)).toNat)) < 134) ∧
   R32 (F 298 (6 + (F 298 (22 + (F 298 (46 + x1).toNat)).toNat)).toNat) ∧
   (if (F 298 (6 + (F 298 (22 + (F 298 (46 + x1).toNat)).toNat)).toNat) = 0 then
    Q (none) (Wd S L (am_up F 297 18 0) G h)
   else
    Q (none) (Wd S L (am_up F 297 18 (F 297 18)) G h)))
  else
   Q (none) (Wd S L (am_up F 297 18 (F 297 18)) G h)))
 else
  (R32 ((F 298 0) - 1) ∧
  (if x3 < 0 then
   C133_21 x1 x2 (x3 + 2) (Wd S L F G h) Q
  else
   (if ((F 298 0) - 1) < x3 then
    C133_21 x1 x2 (x3 + 2) (Wd S L F G h) Q
   else
    ((0 ≤ (46 + x3) ∧ (46 + x3) < 134) ∧
    (0 ≤ (34 + (F 298 (46 + x3).toNat)) ∧ (34 + (F 298 (46 + x3).toNat)) < 134) ∧
    C131_0 x3 x2 (Wd S L F G h) (fun v w1 => ∃ (v16 : Int), v = some (vi v16) ∧ w1 = (Wd S L F G h) ∧
     C133_21 x1 x2 (x3 + 2) (Wd S L (am_up (am_up F 297 18 ((F 297 18) + ((F 298 (34 + (F 298 (46 + x3).toNat)).toNat) * v16))) 297 19 ((F 297 19) + (F 298 (34 + (F 298 (46 + x3).toNat)).toNat))) G h) Q)))))))) : C133_21 x1 x2 x3 (Wd S L F G h) Q := by
  obtain ⟨g1, H⟩ := H
  obtain ⟨g2, H⟩ := H
  refine pt133 (s' := (25, [some (vr 297), some (vi x1), some (vi x2), some (vi x3)], [vi (x1 + 1), vi x3], (Wd S L F G h))) (by decide) [0, 0, 0, 0] rfl trivial ?_
  by_cases c3 : (x1 + 1) < x3
  · rw [if_pos c3] at H
    obtain ⟨g4, H⟩ := H
    refine pt133 (s' := (79, [some (vr 297), some (vi x1), some (vi x2), some (vi x3)], [vi x2, vr 297], (Wd S L F G h))) (by decide) [1, 0, 0] rfl ⟨trivial, ⟨⟨g1, g2⟩, c3⟩⟩ ?_
    by_cases c5 : x2 = 0
    · rw [if_pos c5] at H
      refine pt133 (s' := (84, [some (vr 297), some (vi x1), some (vi x2), some (vi x3)], [vi x1, vr 297, vr 297], (Wd S L F G h))) (by decide) [0, 0, 0] rfl ⟨trivial, ⟨g4, c5⟩⟩ ?_
      refine wp.cl am_m133 rfl am_m117 7 [vr 297, vi x1] [vr 297] rfl (Nat.le_of_ble_eq_true rfl) (Nat.le_of_ble_eq_true rfl) rfl (Nat.le_of_ble_eq_true rfl) rfl (Nat.le_of_ble_eq_true rfl) (Nat.le_of_ble_eq_true rfl) ⟨_, _, rfl, Nat.le_of_ble_eq_true rfl, rfl⟩ ?_
      refine pt117 (s' := (8, [some (vr 297), some (vi x1)], [vi x1, vr 297, vi 6, vr 298], (Wd S L F G h))) (by decide) [0, 298, 0, 0, 0] rfl ⟨trivial, ⟨Nat.le_of_ble_eq_true rfl, rfl, hh _ _ _ rfl⟩⟩ ?_
      refine wp.cl am_m117 rfl am_m116 6 [vr 297, vi x1] [vi 6, vr 298] rfl (Nat.le_of_ble_eq_true rfl) (Nat.le_of_ble_eq_true rfl) rfl (Nat.le_of_ble_eq_true rfl) rfl (Nat.le_of_ble_eq_true rfl) (Nat.le_of_ble_eq_true rfl) ⟨_, _, rfl, Nat.le_of_ble_eq_true rfl, rfl⟩ ?_
      obtain ⟨g6, H⟩ := H
      obtain ⟨g7, H⟩ := H
      refine pt116 (s' := (17, [some (vr 297), some (vi x1)], [vi (F 298 (22 + (F 298 (46 + x1).toNat)).toNat)], (Wd S L F G h))) (by decide) [0, 298, 0, 0, 298, 0, 0, 0, 0, 0, 0] rfl ⟨⟨⟨⟨trivial, ⟨Nat.le_of_ble_eq_true rfl, rfl, hh _ _ _ rfl⟩⟩, ⟨Nat.le_of_ble_eq_true rfl, rfl, hh _ _ _ rfl⟩⟩, (ix ⟨Nat.le_of_ble_eq_true rfl, rfl⟩ g6)⟩, (ix ⟨Nat.le_of_ble_eq_true rfl, rfl⟩ g7)⟩ ?_
      refine wp.fin (v := some (vi (F 298 (22 + (F 298 (46 + x1).toNat)).toNat))) (by decide) am_m116 rfl ⟨_, rfl, Or.inl rfl, rfl⟩ ?_
      show wp 7 117 (11, [some (vr 297), some (vi x1)], [vi (F 298 (22 + (F 298 (46 + x1).toNat)).toNat), vi 6, vr 298], (Wd S L F G h)) _
      obtain ⟨g8, H⟩ := H
      obtain ⟨g9, H⟩ := H
      refine pt117 (s' := (13, [some (vr 297), some (vi x1)], [vi (F 298 (6 + (F 298 (22 + (F 298 (46 + x1).toNat)).toNat)).toNat)], (Wd S L F G h))) (by decide) [0, 0] rfl ⟨trivial, (ix ⟨Nat.le_of_ble_eq_true rfl, rfl⟩ g8)⟩ ?_
      by_cases c10 : (F 298 (6 + (F 298 (22 + (F 298 (46 + x1).toNat)).toNat)).toNat) = 0
      · rw [if_pos c10] at H
        refine pt117 (s' := (21, [some (vr 297), some (vi x1)], [vi 1], (Wd S L F G h))) (by decide) [0, 0, 0] rfl ⟨trivial, ⟨g9, c10⟩⟩ ?_
        refine wp.fin (v := some (vi 1)) (by decide) am_m117 rfl ⟨_, rfl, Or.inr ⟨rfl, Or.inr rfl⟩, rfl⟩ ?_
        show wp 8 133 (87, [some (vr 297), some (vi x1), some (vi x2), some (vi x3)], [vi 1, vr 297], (Wd S L F G h)) _
        refine pt133 (s' := (101, [some (vr 297), some (vi x1), some (vi x2), some (vi x3)], [], (Wd S L (am_up F 297 18 0) G h))) (by decide) [0, 0, 0, 0] rfl ⟨⟨trivial, ⟨(by decide : R32 1), (by decide : ¬ (1 : Int) = (0 : Int))⟩⟩, ⟨Nat.le_of_ble_eq_true rfl, rfl, fun h => by cases h⟩⟩ ?_
        exact wp.fin (v := none) (by decide) am_m133 rfl ⟨rfl, rfl, rfl⟩ H
      · rw [if_neg c10] at H
        refine pt117 (s' := (21, [some (vr 297), some (vi x1)], [vi 0], (Wd S L F G h))) (by decide) [1, 0] rfl ⟨trivial, ⟨g9, c10⟩⟩ ?_
        refine wp.fin (v := some (vi 0)) (by decide) am_m117 rfl ⟨_, rfl, Or.inr ⟨rfl, Or.inl rfl⟩, rfl⟩ ?_
        show wp 8 133 (87, [some (vr 297), some (vi x1), some (vi x2), some (vi x3)], [vi 0, vr 297], (Wd S L F G h)) _
        refine pt133 (s' := (101, [some (vr 297), some (vi x1), some (vi x2), some (vi x3)], [], (Wd S L (am_up F 297 18 (F 297 18)) G h))) (by decide) [1, 0, 0, 0] rfl ⟨⟨⟨trivial, ⟨(by decide : R32 0), (by decide : (0 : Int) = (0 : Int))⟩⟩, ⟨Nat.le_of_ble_eq_true rfl, rfl⟩⟩, ⟨Nat.le_of_ble_eq_true rfl, rfl, fun h => by cases h⟩⟩ ?_
        exact wp.fin (v := none) (by decide) am_m133 rfl ⟨rfl, rfl, rfl⟩ H
    · rw [if_neg c5] at H
      refine pt133 (s' := (101, [some (vr 297), some (vi x1), some (vi x2), some (vi x3)], [], (Wd S L (am_up F 297 18 (F 297 18)) G h))) (by decide) [1, 0, 0, 0] rfl ⟨⟨⟨trivial, ⟨g4, c5⟩⟩, ⟨Nat.le_of_ble_eq_true rfl, rfl⟩⟩, ⟨Nat.le_of_ble_eq_true rfl, rfl, fun h => by cases h⟩⟩ ?_
      exact wp.fin (v := none) (by decide) am_m133 rfl ⟨rfl, rfl, rfl⟩ H
  · rw [if_neg c3] at H
    refine pt133 (s' := (30, [some (vr 297), some (vi x1), some (vi x2), some (vi x3)], [vi x3, vr 297], (Wd S L F G h))) (by decide) [0, 0, 0] rfl ⟨trivial, ⟨⟨g1, g2⟩, c3⟩⟩ ?_
    refine wp.cl am_m133 rfl am_m115 7 [vr 297, vi x3] [] rfl (Nat.le_of_ble_eq_true rfl) (Nat.le_of_ble_eq_true rfl) rfl (Nat.le_of_ble_eq_true rfl) rfl (Nat.le_of_ble_eq_true rfl) (Nat.le_of_ble_eq_true rfl) ⟨_, _, rfl, Nat.le_of_ble_eq_true rfl, rfl⟩ ?_
    obtain ⟨g11, H⟩ := H
    refine pt115 (s' := (12, [some (vr 297), some (vi x3)], [vj ((F 298 0) - 1), vj 0, vj x3], (Wd S L F G h))) (by decide) [0, 0, 0, 0, 298, 0, 0, 0, 0, 0] rfl ⟨⟨⟨⟨trivial, g1⟩, ⟨Nat.le_of_ble_eq_true rfl, rfl, hh _ _ _ rfl⟩⟩, (ix ⟨Nat.le_of_ble_eq_true rfl, rfl⟩ (by decide : (0 : Int) ≤ 0 ∧ (0 : Int) < 134))⟩, g11⟩ ?_
    refine wp.cl am_m115 rfl am_m112 6 [vj x3, vj 0, vj ((F 298 0) - 1)] [] rfl (Nat.le_of_ble_eq_true rfl) (Nat.le_of_ble_eq_true rfl) rfl (Nat.le_of_ble_eq_true rfl) rfl (Nat.le_of_ble_eq_true rfl) (Nat.le_of_ble_eq_true rfl) trivial ?_
    refine pt112 (s' := (3, [some (vj x3), none, some (vj 0), none, some (vj ((F 298 0) - 1)), none], [vi (y_cmp x3 0)], (Wd S L F G h))) (by decide) [0, 0, 0] rfl ⟨trivial, ⟨(r64 g1), (by decide : R64 0)⟩⟩ ?_
    by_cases c12 : x3 < 0
    · rw [if_pos c12] at H
      refine pt112 (s' := (18, [some (vj x3), none, some (vj 0), none, some (vj ((F 298 0) - 1)), none], [vi 0], (Wd S L F G h))) (by decide) [1, 0] rfl ⟨trivial, ⟨y_cmp_r32, (y_cmp_lt.mpr c12)⟩⟩ ?_
      refine wp.fin (v := some (vi 0)) (by decide) am_m112 rfl ⟨_, rfl, Or.inr ⟨rfl, Or.inl rfl⟩, rfl⟩ ?_
      show wp 7 115 (15, [some (vr 297), some (vi x3)], [vi 0], (Wd S L F G h)) _
      refine wp.fin (v := some (vi 0)) (by decide) am_m115 rfl ⟨_, rfl, Or.inr ⟨rfl, Or.inl rfl⟩, rfl⟩ ?_
      show wp 8 133 (33, [some (vr 297), some (vi x1), some (vi x2), some (vi x3)], [vi 0], (Wd S L F G h)) _
      refine pt133 (s' := (21, [some (vr 297), some (vi x1), some (vi x2), some (vi (x3 + 2))], [], (Wd S L F G h))) (by decide) [1, 0, 0] rfl ⟨trivial, ⟨(by decide : R32 0), (by decide : (0 : Int) = (0 : Int))⟩⟩ ?_
      exact wp.weak (a := [some (vr 297), some (vi x1), some (vi x2), some (vi (x3 + 2))]) ⟨rfl, rfl, rfl, rfl, trivial⟩ H
    · rw [if_neg c12] at H
      refine pt112 (s' := (10, [some (vj x3), none, some (vj 0), none, some (vj ((F 298 0) - 1)), none], [vi (y_cmp x3 ((F 298 0) - 1))], (Wd S L F G h))) (by decide) [0, 0, 0, 0] rfl ⟨⟨trivial, ⟨y_cmp_r32, (fun e => c12 (y_cmp_lt.mp e))⟩⟩, ⟨(r64 g1), (r64 g11)⟩⟩ ?_
      by_cases c13 : ((F 298 0) - 1) < x3
      · rw [if_pos c13] at H
        refine pt112 (s' := (18, [some (vj x3), none, some (vj 0), none, some (vj ((F 298 0) - 1)), none], [vi 0], (Wd S L F G h))) (by decide) [1, 0] rfl ⟨trivial, ⟨y_cmp_r32, (y_cmp_gt.mpr c13)⟩⟩ ?_
        refine wp.fin (v := some (vi 0)) (by decide) am_m112 rfl ⟨_, rfl, Or.inr ⟨rfl, Or.inl rfl⟩, rfl⟩ ?_
        show wp 7 115 (15, [some (vr 297), some (vi x3)], [vi 0], (Wd S L F G h)) _
        refine wp.fin (v := some (vi 0)) (by decide) am_m115 rfl ⟨_, rfl, Or.inr ⟨rfl, Or.inl rfl⟩, rfl⟩ ?_
        show wp 8 133 (33, [some (vr 297), some (vi x1), some (vi x2), some (vi x3)], [vi 0], (Wd S L F G h)) _
        refine pt133 (s' := (21, [some (vr 297), some (vi x1), some (vi x2), some (vi (x3 + 2))], [], (Wd S L F G h))) (by decide) [1, 0, 0] rfl ⟨trivial, ⟨(by decide : R32 0), (by decide : (0 : Int) = (0 : Int))⟩⟩ ?_
        exact wp.weak (a := [some (vr 297), some (vi x1), some (vi x2), some (vi (x3 + 2))]) ⟨rfl, rfl, rfl, rfl, trivial⟩ H
      · rw [if_neg c13] at H
        refine pt112 (s' := (18, [some (vj x3), none, some (vj 0), none, some (vj ((F 298 0) - 1)), none], [vi 1], (Wd S L F G h))) (by decide) [0, 0, 0] rfl ⟨trivial, ⟨y_cmp_r32, (fun e => c13 (y_cmp_gt.mp e))⟩⟩ ?_
        refine wp.fin (v := some (vi 1)) (by decide) am_m112 rfl ⟨_, rfl, Or.inr ⟨rfl, Or.inr rfl⟩, rfl⟩ ?_
        show wp 7 115 (15, [some (vr 297), some (vi x3)], [vi 1], (Wd S L F G h)) _
        refine wp.fin (v := some (vi 1)) (by decide) am_m115 rfl ⟨_, rfl, Or.inr ⟨rfl, Or.inr rfl⟩, rfl⟩ ?_
        show wp 8 133 (33, [some (vr 297), some (vi x1), some (vi x2), some (vi x3)], [vi 1], (Wd S L F G h)) _
        refine pt133 (s' := (43, [some (vr 297), some (vi x1), some (vi x2), some (vi x3)], [vi x3, vr 297, vi (F 297 18), vr 297], (Wd S L F G h))) (by decide) [0, 0, 0, 0, 0, 0] rfl ⟨⟨trivial, ⟨(by decide : R32 1), (by decide : ¬ (1 : Int) = (0 : Int))⟩⟩, ⟨Nat.le_of_ble_eq_true rfl, rfl⟩⟩ ?_
        refine wp.cl am_m133 rfl am_m132 6 [vr 297, vi x3] [vi (F 297 18), vr 297] rfl (Nat.le_of_ble_eq_true rfl) (Nat.le_of_ble_eq_true rfl) rfl (Nat.le_of_ble_eq_true rfl) rfl (Nat.le_of_ble_eq_true rfl) (Nat.le_of_ble_eq_true rfl) ⟨_, _, rfl, Nat.le_of_ble_eq_true rfl, rfl⟩ ?_
        obtain ⟨g14, H⟩ := H
        obtain ⟨g15, H⟩ := H
        refine pt132 (s' := (17, [some (vr 297), some (vi x3)], [vi (F 298 (34 + (F 298 (46 + x3).toNat)).toNat)], (Wd S L F G h))) (by decide) [0, 298, 0, 0, 298, 0, 0, 0, 0, 0, 0] rfl ⟨⟨⟨⟨trivial, ⟨Nat.le_of_ble_eq_true rfl, rfl, hh _ _ _ rfl⟩⟩, ⟨Nat.le_of_ble_eq_true rfl, rfl, hh _ _ _ rfl⟩⟩, (ix ⟨Nat.le_of_ble_eq_true rfl, rfl⟩ g14)⟩, (ix ⟨Nat.le_of_ble_eq_true rfl, rfl⟩ g15)⟩ ?_
        refine wp.fin (v := some (vi (F 298 (34 + (F 298 (46 + x3).toNat)).toNat))) (by decide) am_m132 rfl ⟨_, rfl, Or.inl rfl, rfl⟩ ?_
        show wp 8 133 (46, [some (vr 297), some (vi x1), some (vi x2), some (vi x3)], [vi (F 298 (34 + (F 298 (46 + x3).toNat)).toNat), vi (F 297 18), vr 297], (Wd S L F G h)) _
        refine pt133 (s' := (49, [some (vr 297), some (vi x1), some (vi x2), some (vi x3)], [vi x2, vi x3, vr 297, vi (F 298 (34 + (F 298 (46 + x3).toNat)).toNat), vi (F 297 18), vr 297], (Wd S L F G h))) (by decide) [0, 0, 0] rfl trivial ?_
        refine wp.cl am_m133 rfl am_m131 7 [vr 297, vi x3, vi x2] [vi (F 298 (34 + (F 298 (46 + x3).toNat)).toNat), vi (F 297 18), vr 297] rfl (Nat.le_of_ble_eq_true rfl) (Nat.le_of_ble_eq_true rfl) rfl (Nat.le_of_ble_eq_true rfl) rfl (Nat.le_of_ble_eq_true rfl) (Nat.le_of_ble_eq_true rfl) ⟨_, _, rfl, Nat.le_of_ble_eq_true rfl, rfl⟩ ?_
        refine wp.mono H ?_
        rintro v w1 ⟨v16, rfl, rfl, H⟩
        show wp 8 133 (52, [some (vr 297), some (vi x1), some (vi x2), some (vi x3)], [vi v16, vi (F 298 (34 + (F 298 (46 + x3).toNat)).toNat), vi (F 297 18), vr 297], (Wd S L F G h)) _
        refine pt133 (s' := (64, [some (vr 297), some (vi x1), some (vi x2), some (vi x3)], [vi x3, vr 297, vi (F 297 19), vr 297], (Wd S L (am_up F 297 18 ((F 297 18) + ((F 298 (34 + (F 298 (46 + x3).toNat)).toNat) * v16))) G h))) (by decide) [0, 0, 0, 0, 0, 0, 0, 0] rfl ⟨⟨trivial, ⟨Nat.le_of_ble_eq_true rfl, rfl, fun h => by cases h⟩⟩, ⟨Nat.le_of_ble_eq_true rfl, rfl⟩⟩ ?_
        refine wp.cl am_m133 rfl am_m132 6 [vr 297, vi x3] [vi (F 297 19), vr 297] rfl (Nat.le_of_ble_eq_true rfl) (Nat.le_of_ble_eq_true rfl) rfl (Nat.le_of_ble_eq_true rfl) rfl (Nat.le_of_ble_eq_true rfl) (Nat.le_of_ble_eq_true rfl) ⟨_, _, rfl, Nat.le_of_ble_eq_true rfl, rfl⟩ ?_
        refine pt132 (s' := (17, [some (vr 297), some (vi x3)], [vi (F 298 (34 + (F 298 (46 + x3).toNat)).toNat)], (Wd S L (am_up F 297 18 ((F 297 18) + ((F 298 (34 + (F 298 (46 + x3).toNat)).toNat) * v16))) G h))) (by decide) [0, 298, 0, 0, 298, 0, 0, 0, 0, 0, 0] rfl ⟨⟨⟨⟨trivial, ⟨Nat.le_of_ble_eq_true rfl, rfl, hh _ _ _ rfl⟩⟩, ⟨Nat.le_of_ble_eq_true rfl, rfl, hh _ _ _ rfl⟩⟩, (ix ⟨Nat.le_of_ble_eq_true rfl, rfl⟩ g14)⟩, (ix ⟨Nat.le_of_ble_eq_true rfl, rfl⟩ g15)⟩ ?_
        refine wp.fin (v := some (vi (F 298 (34 + (F 298 (46 + x3).toNat)).toNat))) (by decide) am_m132 rfl ⟨_, rfl, Or.inl rfl, rfl⟩ ?_
        show wp 8 133 (67, [some (vr 297), some (vi x1), some (vi x2), some (vi x3)], [vi (F 298 (34 + (F 298 (46 + x3).toNat)).toNat), vi (F 297 19), vr 297], (Wd S L (am_up F 297 18 ((F 297 18) + ((F 298 (34 + (F 298 (46 + x3).toNat)).toNat) * v16))) G h)) _
        refine pt133 (s' := (21, [some (vr 297), some (vi x1), some (vi x2), some (vi (x3 + 2))], [], (Wd S L (am_up (am_up F 297 18 ((F 297 18) + ((F 298 (34 + (F 298 (46 + x3).toNat)).toNat) * v16))) 297 19 ((F 297 19) + (F 298 (34 + (F 298 (46 + x3).toNat)).toNat))) G h))) (by decide) [0, 0, 0, 0] rfl ⟨trivial, ⟨Nat.le_of_ble_eq_true rfl, rfl, fun h => by cases h⟩⟩ ?_
        exact wp.weak (a := [some (vr 297), some (vi x1), some (vi x2), some (vi (x3 + 2))]) ⟨rfl, rfl, rfl, rfl, trivial⟩ H
set_option maxRecDepth 100000 in
set_option maxHeartbeats 4000000 in
theorem T134_0 {S L : Nat} {F G : Nat → Nat → Int} {h : Nat → Nat → Option Nat} (hh : RfH h) {a1 : Int} {a2 : Int} {a3 : Int}  {Q : Option V2 → W2 → Prop}
    (H : (R32 a1 ∧
 R32 ((F 298 0) - 1) ∧
 (if a1 < 0 then
  Q (some (vi (-1))) (Wd S L F G h)
 else
  (if ((F 298 0) - 1) < a1 then
   Q (some (vi (-1))) (Wd S L F G h)
  else
   (R32 a2 ∧
   (if a2 < 0 then
    Q (some (vi (-1))) (Wd S L F G h)
   else
    (if 1 < a2 then
     Q (some (vi (-1))) (Wd S L F G h)
    else
     (R32 a3 ∧
     (if a3 < 0 then
      Q (some (vi (-1))) (Wd S L F G h)
     else
      (if 1 < a3 then
       Q (some (vi (-1))) (Wd S L F G h)
      else
       C133_0 a1 a2 (Wd S L F G h) (fun v w1 => ∃ (F11 : Nat → Nat → Int), v = none ∧ w1 = (Wd S L F11 G h) ∧
        (R32 (F11 297 18) ∧
        R32 (F11 297 19) ∧
        C114_0 (F11 297 18) (F11 297 19) a3 (Wd S L F11 G h) (fun v w1 => ∃ (v14 : Int), v = some (vj v14) ∧ w1 = (Wd S L F11 G h) ∧
         Q (some (vi v14)) (Wd S L F11 G h)))))))))))))) : C134_0 a1 a2 a3 (Wd S L F G h) Q := by
  refine pt134 (s' := (2, [some (vr 297), some (vi a1), some (vi a2), some (vi a3)], [vi a1, vr 297], (Wd S L F G h))) (by decide) [0, 0] rfl trivial ?_
  refine wp.cl am_m134 rfl am_m115 7 [vr 297, vi a1] [] rfl (Nat.le_of_ble_eq_true rfl) (Nat.le_of_ble_eq_true rfl) rfl (Nat.le_of_ble_eq_true rfl) rfl (Nat.le_of_ble_eq_true rfl) (Nat.le_of_ble_eq_true rfl) ⟨_, _, rfl, Nat.le_of_ble_eq_true rfl, rfl⟩ ?_
  obtain ⟨g1, H⟩ := H
  obtain ⟨g2, H⟩ := H
  refine pt115 (s' := (12, [some (vr 297), some (vi a1)], [vj ((F 298 0) - 1), vj 0, vj a1], (Wd S L F G h))) (by decide) [0, 0, 0, 0, 298, 0, 0, 0, 0, 0] rfl ⟨⟨⟨⟨trivial, g1⟩, ⟨Nat.le_of_ble_eq_true rfl, rfl, hh _ _ _ rfl⟩⟩, (ix ⟨Nat.le_of_ble_eq_true rfl, rfl⟩ (by decide : (0 : Int) ≤ 0 ∧ (0 : Int) < 134))⟩, g2⟩ ?_
  refine wp.cl am_m115 rfl am_m112 6 [vj a1, vj 0, vj ((F 298 0) - 1)] [] rfl (Nat.le_of_ble_eq_true rfl) (Nat.le_of_ble_eq_true rfl) rfl (Nat.le_of_ble_eq_true rfl) rfl (Nat.le_of_ble_eq_true rfl) (Nat.le_of_ble_eq_true rfl) trivial ?_
  refine pt112 (s' := (3, [some (vj a1), none, some (vj 0), none, some (vj ((F 298 0) - 1)), none], [vi (y_cmp a1 0)], (Wd S L F G h))) (by decide) [0, 0, 0] rfl ⟨trivial, ⟨(r64 g1), (by decide : R64 0)⟩⟩ ?_
  by_cases c3 : a1 < 0
  · rw [if_pos c3] at H
    refine pt112 (s' := (18, [some (vj a1), none, some (vj 0), none, some (vj ((F 298 0) - 1)), none], [vi 0], (Wd S L F G h))) (by decide) [1, 0] rfl ⟨trivial, ⟨y_cmp_r32, (y_cmp_lt.mpr c3)⟩⟩ ?_
    refine wp.fin (v := some (vi 0)) (by decide) am_m112 rfl ⟨_, rfl, Or.inr ⟨rfl, Or.inl rfl⟩, rfl⟩ ?_
    show wp 7 115 (15, [some (vr 297), some (vi a1)], [vi 0], (Wd S L F G h)) _
    refine wp.fin (v := some (vi 0)) (by decide) am_m115 rfl ⟨_, rfl, Or.inr ⟨rfl, Or.inl rfl⟩, rfl⟩ ?_
    show wp 9 134 (5, [some (vr 297), some (vi a1), some (vi a2), some (vi a3)], [vi 0], (Wd S L F G h)) _
    refine pt134 (s' := (29, [some (vr 297), some (vi a1), some (vi a2), some (vi a3)], [vi (-1)], (Wd S L F G h))) (by decide) [1, 0] rfl ⟨trivial, ⟨(by decide : R32 0), (by decide : (0 : Int) = (0 : Int))⟩⟩ ?_
    exact wp.fin (v := some (vi (-1))) (by decide) am_m134 rfl ⟨_, rfl, Or.inl rfl, rfl⟩ H
  · rw [if_neg c3] at H
    refine pt112 (s' := (10, [some (vj a1), none, some (vj 0), none, some (vj ((F 298 0) - 1)), none], [vi (y_cmp a1 ((F 298 0) - 1))], (Wd S L F G h))) (by decide) [0, 0, 0, 0] rfl ⟨⟨trivial, ⟨y_cmp_r32, (fun e => c3 (y_cmp_lt.mp e))⟩⟩, ⟨(r64 g1), (r64 g2)⟩⟩ ?_
    by_cases c4 : ((F 298 0) - 1) < a1
    · rw [if_pos c4] at H
      refine pt112 (s' := (18, [some (vj a1), none, some (vj 0), none, some (vj ((F 298 0) - 1)), none], [vi 0], (Wd S L F G h))) (by decide) [1, 0] rfl ⟨trivial, ⟨y_cmp_r32, (y_cmp_gt.mpr c4)⟩⟩ ?_
      refine wp.fin (v := some (vi 0)) (by decide) am_m112 rfl ⟨_, rfl, Or.inr ⟨rfl, Or.inl rfl⟩, rfl⟩ ?_
      show wp 7 115 (15, [some (vr 297), some (vi a1)], [vi 0], (Wd S L F G h)) _
      refine wp.fin (v := some (vi 0)) (by decide) am_m115 rfl ⟨_, rfl, Or.inr ⟨rfl, Or.inl rfl⟩, rfl⟩ ?_
      show wp 9 134 (5, [some (vr 297), some (vi a1), some (vi a2), some (vi a3)], [vi 0], (Wd S L F G h)) _
      refine pt134 (s' := (29, [some (vr 297), some (vi a1), some (vi a2), some (vi a3)], [vi (-1)], (Wd S L F G h))) (by decide) [1, 0] rfl ⟨trivial, ⟨(by decide : R32 0), (by decide : (0 : Int) = (0 : Int))⟩⟩ ?_
      exact wp.fin (v := some (vi (-1))) (by decide) am_m134 rfl ⟨_, rfl, Or.inl rfl, rfl⟩ H
    · rw [if_neg c4] at H
      refine pt112 (s' := (18, [some (vj a1), none, some (vj 0), none, some (vj ((F 298 0) - 1)), none], [vi 1], (Wd S L F G h))) (by decide) [0, 0, 0] rfl ⟨trivial, ⟨y_cmp_r32, (fun e => c4 (y_cmp_gt.mp e))⟩⟩ ?_
      refine wp.fin (v := some (vi 1)) (by decide) am_m112 rfl ⟨_, rfl, Or.inr ⟨rfl, Or.inr rfl⟩, rfl⟩ ?_
      show wp 7 115 (15, [some (vr 297), some (vi a1)], [vi 1], (Wd S L F G h)) _
      refine wp.fin (v := some (vi 1)) (by decide) am_m115 rfl ⟨_, rfl, Or.inr ⟨rfl, Or.inr rfl⟩, rfl⟩ ?_
      show wp 9 134 (5, [some (vr 297), some (vi a1), some (vi a2), some (vi a3)], [vi 1], (Wd S L F G h)) _
      obtain ⟨g5, H⟩ := H
      refine pt134 (s' := (12, [some (vr 297), some (vi a1), some (vi a2), some (vi a3)], [vj 1, vj 0, vj a2], (Wd S L F G h))) (by decide) [0, 0, 0, 0, 0] rfl ⟨⟨trivial, ⟨(by decide : R32 1), (by decide : ¬ (1 : Int) = (0 : Int))⟩⟩, g5⟩ ?_
      refine wp.cl am_m134 rfl am_m112 6 [vj a2, vj 0, vj 1] [] rfl (Nat.le_of_ble_eq_true rfl) (Nat.le_of_ble_eq_true rfl) rfl (Nat.le_of_ble_eq_true rfl) rfl (Nat.le_of_ble_eq_true rfl) (Nat.le_of_ble_eq_true rfl) trivial ?_
      refine pt112 (s' := (3, [some (vj a2), none, some (vj 0), none, some (vj 1), none], [vi (y_cmp a2 0)], (Wd S L F G h))) (by decide) [0, 0, 0] rfl ⟨trivial, ⟨(r64 g5), (by decide : R64 0)⟩⟩ ?_
      by_cases c6 : a2 < 0
      · rw [if_pos c6] at H
        refine pt112 (s' := (18, [some (vj a2), none, some (vj 0), none, some (vj 1), none], [vi 0], (Wd S L F G h))) (by decide) [1, 0] rfl ⟨trivial, ⟨y_cmp_r32, (y_cmp_lt.mpr c6)⟩⟩ ?_
        refine wp.fin (v := some (vi 0)) (by decide) am_m112 rfl ⟨_, rfl, Or.inr ⟨rfl, Or.inl rfl⟩, rfl⟩ ?_
        show wp 9 134 (15, [some (vr 297), some (vi a1), some (vi a2), some (vi a3)], [vi 0], (Wd S L F G h)) _
        refine pt134 (s' := (29, [some (vr 297), some (vi a1), some (vi a2), some (vi a3)], [vi (-1)], (Wd S L F G h))) (by decide) [1, 0] rfl ⟨trivial, ⟨(by decide : R32 0), (by decide : (0 : Int) = (0 : Int))⟩⟩ ?_
        exact wp.fin (v := some (vi (-1))) (by decide) am_m134 rfl ⟨_, rfl, Or.inl rfl, rfl⟩ H
      · rw [if_neg c6] at H
        refine pt112 (s' := (10, [some (vj a2), none, some (vj 0), none, some (vj 1), none], [vi (y_cmp a2 1)], (Wd S L F G h))) (by decide) [0, 0, 0, 0] rfl ⟨⟨trivial, ⟨y_cmp_r32, (fun e => c6 (y_cmp_lt.mp e))⟩⟩, ⟨(r64 g5), (by decide : R64 1)⟩⟩ ?_
        by_cases c7 : 1 < a2
        · rw [if_pos c7] at H
          refine pt112 (s' := (18, [some (vj a2), none, some (vj 0), none, some (vj 1), none], [vi 0], (Wd S L F G h))) (by decide) [1, 0] rfl ⟨trivial, ⟨y_cmp_r32, (y_cmp_gt.mpr c7)⟩⟩ ?_
          refine wp.fin (v := some (vi 0)) (by decide) am_m112 rfl ⟨_, rfl, Or.inr ⟨rfl, Or.inl rfl⟩, rfl⟩ ?_
          show wp 9 134 (15, [some (vr 297), some (vi a1), some (vi a2), some (vi a3)], [vi 0], (Wd S L F G h)) _
          refine pt134 (s' := (29, [some (vr 297), some (vi a1), some (vi a2), some (vi a3)], [vi (-1)], (Wd S L F G h))) (by decide) [1, 0] rfl ⟨trivial, ⟨(by decide : R32 0), (by decide : (0 : Int) = (0 : Int))⟩⟩ ?_
          exact wp.fin (v := some (vi (-1))) (by decide) am_m134 rfl ⟨_, rfl, Or.inl rfl, rfl⟩ H
        · rw [if_neg c7] at H
          refine pt112 (s' := (18, [some (vj a2), none, some (vj 0), none, some (vj 1), none], [vi 1], (Wd S L F G h))) (by decide) [0, 0, 0] rfl ⟨trivial, ⟨y_cmp_r32, (fun e => c7 (y_cmp_gt.mp e))⟩⟩ ?_
          refine wp.fin (v := some (vi 1)) (by decide) am_m112 rfl ⟨_, rfl, Or.inr ⟨rfl, Or.inr rfl⟩, rfl⟩ ?_
          show wp 9 134 (15, [some (vr 297), some (vi a1), some (vi a2), some (vi a3)], [vi 1], (Wd S L F G h)) _
          obtain ⟨g8, H⟩ := H
          refine pt134 (s' := (22, [some (vr 297), some (vi a1), some (vi a2), some (vi a3)], [vj 1, vj 0, vj a3], (Wd S L F G h))) (by decide) [0, 0, 0, 0, 0] rfl ⟨⟨trivial, ⟨(by decide : R32 1), (by decide : ¬ (1 : Int) = (0 : Int))⟩⟩, g8⟩ ?_
          refine wp.cl am_m134 rfl am_m112 6 [vj a3, vj 0, vj 1] [] rfl (Nat.le_of_ble_eq_true rfl) (Nat.le_of_ble_eq_true rfl) rfl (Nat.le_of_ble_eq_true rfl) rfl (Nat.le_of_ble_eq_true rfl) (Nat.le_of_ble_eq_true rfl) trivial ?_
          refine pt112 (s' := (3, [some (vj a3), none, some (vj 0), none, some (vj 1), none], [vi (y_cmp a3 0)], (Wd S L F G h))) (by decide) [0, 0, 0] rfl ⟨trivial, ⟨(r64 g8), (by decide : R64 0)⟩⟩ ?_
          by_cases c9 : a3 < 0
          · rw [if_pos c9] at H
            refine pt112 (s' := (18, [some (vj a3), none, some (vj 0), none, some (vj 1), none], [vi 0], (Wd S L F G h))) (by decide) [1, 0] rfl ⟨trivial, ⟨y_cmp_r32, (y_cmp_lt.mpr c9)⟩⟩ ?_
            refine wp.fin (v := some (vi 0)) (by decide) am_m112 rfl ⟨_, rfl, Or.inr ⟨rfl, Or.inl rfl⟩, rfl⟩ ?_
            show wp 9 134 (25, [some (vr 297), some (vi a1), some (vi a2), some (vi a3)], [vi 0], (Wd S L F G h)) _
            refine pt134 (s' := (29, [some (vr 297), some (vi a1), some (vi a2), some (vi a3)], [vi (-1)], (Wd S L F G h))) (by decide) [0, 0] rfl ⟨trivial, ⟨(by decide : R32 0), (by decide : (0 : Int) = (0 : Int))⟩⟩ ?_
            exact wp.fin (v := some (vi (-1))) (by decide) am_m134 rfl ⟨_, rfl, Or.inl rfl, rfl⟩ H
          · rw [if_neg c9] at H
            refine pt112 (s' := (10, [some (vj a3), none, some (vj 0), none, some (vj 1), none], [vi (y_cmp a3 1)], (Wd S L F G h))) (by decide) [0, 0, 0, 0] rfl ⟨⟨trivial, ⟨y_cmp_r32, (fun e => c9 (y_cmp_lt.mp e))⟩⟩, ⟨(r64 g8), (by decide : R64 1)⟩⟩ ?_
            by_cases c10 : 1 < a3
            · rw [if_pos c10] at H
              refine pt112 (s' := (18, [some (vj a3), none, some (vj 0), none, some (vj 1), none], [vi 0], (Wd S L F G h))) (by decide) [1, 0] rfl ⟨trivial, ⟨y_cmp_r32, (y_cmp_gt.mpr c10)⟩⟩ ?_
              refine wp.fin (v := some (vi 0)) (by decide) am_m112 rfl ⟨_, rfl, Or.inr ⟨rfl, Or.inl rfl⟩, rfl⟩ ?_
              show wp 9 134 (25, [some (vr 297), some (vi a1), some (vi a2), some (vi a3)], [vi 0], (Wd S L F G h)) _
              refine pt134 (s' := (29, [some (vr 297), some (vi a1), some (vi a2), some (vi a3)], [vi (-1)], (Wd S L F G h))) (by decide) [0, 0] rfl ⟨trivial, ⟨(by decide : R32 0), (by decide : (0 : Int) = (0 : Int))⟩⟩ ?_
              exact wp.fin (v := some (vi (-1))) (by decide) am_m134 rfl ⟨_, rfl, Or.inl rfl, rfl⟩ H
            · rw [if_neg c10] at H
              refine pt112 (s' := (18, [some (vj a3), none, some (vj 0), none, some (vj 1), none], [vi 1], (Wd S L F G h))) (by decide) [0, 0, 0] rfl ⟨trivial, ⟨y_cmp_r32, (fun e => c10 (y_cmp_gt.mp e))⟩⟩ ?_
              refine wp.fin (v := some (vi 1)) (by decide) am_m112 rfl ⟨_, rfl, Or.inr ⟨rfl, Or.inr rfl⟩, rfl⟩ ?_
              show wp 9 134 (25, [some (vr 297), some (vi a1), some (vi a2), some (vi a3)], [vi 1], (Wd S L F G h)) _
              refine pt134 (s' := (33, [some (vr 297), some (vi a1), some (vi a2), some (vi a3)], [vi a2, vi a1, vr 297], (Wd S L F G h))) (by decide) [1, 0, 0, 0] rfl ⟨trivial, ⟨(by decide : R32 1), (by decide : ¬ (1 : Int) = (0 : Int))⟩⟩ ?_
              refine wp.cl am_m134 rfl am_m133 8 [vr 297, vi a1, vi a2] [] rfl (Nat.le_of_ble_eq_true rfl) (Nat.le_of_ble_eq_true rfl) rfl (Nat.le_of_ble_eq_true rfl) rfl (Nat.le_of_ble_eq_true rfl) (Nat.le_of_ble_eq_true rfl) ⟨_, _, rfl, Nat.le_of_ble_eq_true rfl, rfl⟩ ?_
              refine wp.mono H ?_
              rintro v w1 ⟨F11, rfl, rfl, H⟩
              show wp 9 134 (36, [some (vr 297), some (vi a1), some (vi a2), some (vi a3)], [], (Wd S L F11 G h)) _
              obtain ⟨g12, H⟩ := H
              obtain ⟨g13, H⟩ := H
              refine pt134 (s' := (47, [some (vr 297), some (vi a1), some (vi a2), some (vi a3)], [vi a3, vj (F11 297 19), vj (F11 297 18)], (Wd S L F11 G h))) (by decide) [0, 0, 0, 0, 0, 0, 0] rfl ⟨⟨⟨⟨trivial, ⟨Nat.le_of_ble_eq_true rfl, rfl⟩⟩, g12⟩, ⟨Nat.le_of_ble_eq_true rfl, rfl⟩⟩, g13⟩ ?_
              refine wp.cl am_m134 rfl am_m114 7 [vj (F11 297 18), vj (F11 297 19), vi a3] [] rfl (Nat.le_of_ble_eq_true rfl) (Nat.le_of_ble_eq_true rfl) rfl (Nat.le_of_ble_eq_true rfl) rfl (Nat.le_of_ble_eq_true rfl) (Nat.le_of_ble_eq_true rfl) trivial ?_
              refine wp.mono H ?_
              rintro v w1 ⟨v14, rfl, rfl, H⟩
              show wp 9 134 (50, [some (vr 297), some (vi a1), some (vi a2), some (vi a3)], [vj v14], (Wd S L F11 G h)) _
              refine pt134 (s' := (51, [some (vr 297), some (vi a1), some (vi a2), some (vi a3)], [vi v14], (Wd S L F11 G h))) (by decide) [0] rfl trivial ?_
              exact wp.fin (v := some (vi v14)) (by decide) am_m134 rfl ⟨_, rfl, Or.inl rfl, rfl⟩ H
set_option maxRecDepth 100000 in
set_option maxHeartbeats 4000000 in
theorem T135_0 {S L : Nat} {F G : Nat → Nat → Int} {h : Nat → Nat → Option Nat} (hh : RfH h) {a1 : Int}  {Q : Option V2 → W2 → Prop}
    (H : C135_2 a1 0 (Wd S L F G h) Q) : C135_0 a1 (Wd S L F G h) Q := by
  refine pt135 (s' := (2, [some (vr 297), some (vi a1), some (vi 0)], [], (Wd S L F G h))) (by decide) [0, 0] rfl trivial ?_
  exact wp.weak (a := [some (vr 297), some (vi a1), some (vi 0)]) ⟨rfl, rfl, rfl, trivial⟩ H
set_option maxRecDepth 100000 in
set_option maxHeartbeats 4000000 in
theorem T135_2 {S L : Nat} {F G : Nat → Nat → Int} {h : Nat → Nat → Option Nat} (hh : RfH h) {x1 : Int} {x2 : Int}  {Q : Option V2 → W2 → Prop}
    (H : (R32 x2 ∧
 R32 (F 298 0) ∧
 (if (F 298 0) ≤ x2 then
  Q (none) (Wd S L F G h)
 else
  C133_0 x2 x1 (Wd S L F G h) (fun v w1 => ∃ (F4 : Nat → Nat → Int), v = none ∧ w1 = (Wd S L F4 G h) ∧
   (R32 (F4 297 18) ∧
   R32 (F4 297 19) ∧
   ((0 : Int) ≤ 360360 ∧ (360360 : Int) ≤ 9223372036854775807 ∧ 0 < (F4 297 19) ∧ (F4 297 19) ≤ 9223372036854775807) ∧
   (0 ≤ x2 ∧ x2 < 12) ∧
   C135_2 x1 (x2 + 1) (Wd S L F4 (am_up G 310 x2.toNat ((F4 297 18) * (360360 / (F4 297 19)))) h) Q))))) : C135_2 x1 x2 (Wd S L F G h) Q := by
  obtain ⟨g1, H⟩ := H
  obtain ⟨g2, H⟩ := H
  refine pt135 (s' := (9, [some (vr 297), some (vi x1), some (vi x2)], [vi (F 298 0), vi x2], (Wd S L F G h))) (by decide) [0, 0, 298, 0, 0] rfl ⟨⟨trivial, ⟨Nat.le_of_ble_eq_true rfl, rfl, hh _ _ _ rfl⟩⟩, (ix ⟨Nat.le_of_ble_eq_true rfl, rfl⟩ (by decide : (0 : Int) ≤ 0 ∧ (0 : Int) < 134))⟩ ?_
  by_cases c3 : (F 298 0) ≤ x2
  · rw [if_pos c3] at H
    refine pt135 (s' := (45, [some (vr 297), some (vi x1), some (vi x2)], [], (Wd S L F G h))) (by decide) [1] rfl ⟨trivial, ⟨⟨g1, g2⟩, c3⟩⟩ ?_
    exact wp.fin (v := none) (by decide) am_m135 rfl ⟨rfl, rfl, rfl⟩ H
  · rw [if_neg c3] at H
    refine pt135 (s' := (15, [some (vr 297), some (vi x1), some (vi x2)], [vi x1, vi x2, vr 297], (Wd S L F G h))) (by decide) [0, 0, 0, 0] rfl ⟨trivial, ⟨⟨g1, g2⟩, c3⟩⟩ ?_
    refine wp.cl am_m135 rfl am_m133 8 [vr 297, vi x2, vi x1] [] rfl (Nat.le_of_ble_eq_true rfl) (Nat.le_of_ble_eq_true rfl) rfl (Nat.le_of_ble_eq_true rfl) rfl (Nat.le_of_ble_eq_true rfl) (Nat.le_of_ble_eq_true rfl) ⟨_, _, rfl, Nat.le_of_ble_eq_true rfl, rfl⟩ ?_
    refine wp.mono H ?_
    rintro v w1 ⟨F4, rfl, rfl, H⟩
    show wp 9 135 (18, [some (vr 297), some (vi x1), some (vi x2)], [], (Wd S L F4 G h)) _
    obtain ⟨g5, H⟩ := H
    obtain ⟨g6, H⟩ := H
    obtain ⟨g7, H⟩ := H
    obtain ⟨g8, H⟩ := H
    refine pt135 (s' := (2, [some (vr 297), some (vi x1), some (vi (x2 + 1))], [], (Wd S L F4 (am_up G 310 x2.toNat ((F4 297 18) * (360360 / (F4 297 19)))) h))) (by decide) [0, 310, 0, 0, 0, 0, 0, 0, 0, 0, 0, 0, 0, 0, 0] rfl ⟨⟨⟨⟨⟨⟨⟨trivial, ⟨Nat.le_of_ble_eq_true rfl, rfl, hh _ _ _ rfl⟩⟩, ⟨Nat.le_of_ble_eq_true rfl, rfl⟩⟩, g5⟩, ⟨Nat.le_of_ble_eq_true rfl, rfl⟩⟩, g6⟩, g7⟩, (ix ⟨Nat.le_of_ble_eq_true rfl, rfl⟩ g8)⟩ ?_
    exact wp.weak (a := [some (vr 297), some (vi x1), some (vi (x2 + 1))]) ⟨rfl, rfl, rfl, trivial⟩ H
set_option maxRecDepth 100000 in
set_option maxHeartbeats 4000000 in
theorem T136_0 {S L : Nat} {F G : Nat → Nat → Int} {h : Nat → Nat → Option Nat} (hh : RfH h) {a1 : Int} {a2 : Int} {a3 : Int}  {Q : Option V2 → W2 → Prop}
    (H : (R32 a2 ∧
 (if a2 = 0 then
  C124_0 a1 (Wd S L F G h) (fun v w1 => ∃ (v3 : Int), v = some (vi v3) ∧ w1 = (Wd S L F G h) ∧
   ((0 ≤ (46 + v3) ∧ (46 + v3) < 134) ∧
   (0 ≤ (22 + (F 298 (46 + v3).toNat)) ∧ (22 + (F 298 (46 + v3).toNat)) < 134) ∧
   (0 ≤ (6 + (F 298 (22 + (F 298 (46 + v3).toNat)).toNat)) ∧ (6 + (F 298 (22 + (F 298 (46 + v3).toNat)).toNat)) < 134) ∧
   R32 (F 298 (6 + (F 298 (22 + (F 298 (46 + v3).toNat)).toNat)).toNat) ∧
   (if (F 298 (6 + (F 298 (22 + (F 298 (46 + v3).toNat)).toNat)).toNat) = 0 then
    Q (some (vj 0)) (Wd S L F G h)
   else
    (R32 a1 ∧
    R32 a3 ∧
    (if a3 ≤ a1 then
     C120_0 (F 298 0) (Wd S L F G h) (fun v w1 => ∃ (v12 : Int), v = some (vi v12) ∧ w1 = (Wd S L F G h) ∧
      (R32 (a1 + a3) ∧
      R32 v12 ∧
      (if (a1 + a3) < v12 then
       C136_63 (a1 - a3) (a1 + a3) 0 (a1 - a3) (Wd S L F G h) Q
      else
       C120_0 (F 298 0) (Wd S L F G h) (fun v w1 => ∃ (v16 : Int), v = some (vi v16) ∧ w1 = (Wd S L F G h) ∧
        C136_63 (a1 - a3) (v16 - 1) 0 (a1 - a3) (Wd S L F G h) Q))))
    else
     C120_0 (F 298 0) (Wd S L F G h) (fun v w1 => ∃ (v17 : Int), v = some (vi v17) ∧ w1 = (Wd S L F G h) ∧
      (R32 (a1 + a3) ∧
      R32 v17 ∧
      (if (a1 + a3) < v17 then
       C136_63 0 (a1 + a3) 0 0 (Wd S L F G h) Q
      else
       C120_0 (F 298 0) (Wd S L F G h) (fun v w1 => ∃ (v21 : Int), v = some (vi v21) ∧ w1 = (Wd S L F G h) ∧
        C136_63 0 (v21 - 1) 0 0 (Wd S L F G h) Q)))))))))
 else
  (R32 a1 ∧
  R32 a3 ∧
  (if a3 ≤ a1 then
   C120_0 (F 298 0) (Wd S L F G h) (fun v w1 => ∃ (v25 : Int), v = some (vi v25) ∧ w1 = (Wd S L F G h) ∧
    (R32 (a1 + a3) ∧
    R32 v25 ∧
    (if (a1 + a3) < v25 then
     C136_63 (a1 - a3) (a1 + a3) 0 (a1 - a3) (Wd S L F G h) Q
    else
     C120_0 (F 298 0) (Wd S L F G h) (fun v w1 => ∃ (v29 : Int), v = some (vi v29) ∧ w1 = (Wd S L F G h) ∧
      C136_63 (a1 - a3) (v29 - 1) 0 (a1 - a3) (Wd S L F G h) Q))))
  else
   C120_0 (F 298 0) (Wd S L F G h) (fun v w1 => ∃ (v30 : Int), v = some (vi v30) ∧ w1 = (Wd S L F G h) ∧
    (R32 (a1 + a3) ∧
    R32 v30 ∧
    (if (a1 + a3) < v30 then
     C136_63 0 (a1 + a3) 0 0 (Wd S L F G h) Q
    else
     C120_0 (F 298 0) (Wd S L F G h) (fun v w1 => ∃ (v34 : Int), v = some (vi v34) ∧ w1 = (Wd S L F G h) ∧
      C136_63 0 (v34 - 1) 0 0 (Wd S L F G h) Q))))))))) : C136_0 a1 a2 a3 (Wd S L F G h) Q := by
  obtain ⟨g1, H⟩ := H
  refine pt136 (s' := (1, [some (vr 297), some (vi a1), some (vi a2), some (vi a3), none, none, none, none, none], [vi a2], (Wd S L F G h))) (by decide) [0] rfl trivial ?_
  by_cases c2 : a2 = 0
  · rw [if_pos c2] at H
    refine pt136 (s' := (7, [some (vr 297), some (vi a1), some (vi a2), some (vi a3), none, none, none, none, none], [vi a1, vr 297, vr 297], (Wd S L F G h))) (by decide) [0, 0, 0, 0] rfl ⟨trivial, ⟨g1, c2⟩⟩ ?_
    refine wp.cl am_m136 rfl am_m124 6 [vr 297, vi a1] [vr 297] rfl (Nat.le_of_ble_eq_true rfl) (Nat.le_of_ble_eq_true rfl) rfl (Nat.le_of_ble_eq_true rfl) rfl (Nat.le_of_ble_eq_true rfl) (Nat.le_of_ble_eq_true rfl) ⟨_, _, rfl, Nat.le_of_ble_eq_true rfl, rfl⟩ ?_
    refine wp.mono H ?_
    rintro v w1 ⟨v3, rfl, rfl, H⟩
    show wp 9 136 (10, [some (vr 297), some (vi a1), some (vi a2), some (vi a3), none, none, none, none, none], [vi v3, vr 297], (Wd S L F G h)) _
    refine wp.cl am_m136 rfl am_m117 7 [vr 297, vi v3] [] rfl (Nat.le_of_ble_eq_true rfl) (Nat.le_of_ble_eq_true rfl) rfl (Nat.le_of_ble_eq_true rfl) rfl (Nat.le_of_ble_eq_true rfl) (Nat.le_of_ble_eq_true rfl) ⟨_, _, rfl, Nat.le_of_ble_eq_true rfl, rfl⟩ ?_
    refine pt117 (s' := (8, [some (vr 297), some (vi v3)], [vi v3, vr 297, vi 6, vr 298], (Wd S L F G h))) (by decide) [0, 298, 0, 0, 0] rfl ⟨trivial, ⟨Nat.le_of_ble_eq_true rfl, rfl, hh _ _ _ rfl⟩⟩ ?_
    refine wp.cl am_m117 rfl am_m116 6 [vr 297, vi v3] [vi 6, vr 298] rfl (Nat.le_of_ble_eq_true rfl) (Nat.le_of_ble_eq_true rfl) rfl (Nat.le_of_ble_eq_true rfl) rfl (Nat.le_of_ble_eq_true rfl) (Nat.le_of_ble_eq_true rfl) ⟨_, _, rfl, Nat.le_of_ble_eq_true rfl, rfl⟩ ?_
    obtain ⟨g4, H⟩ := H
    obtain ⟨g5, H⟩ := H
    refine pt116 (s' := (17, [some (vr 297), some (vi v3)], [vi (F 298 (22 + (F 298 (46 + v3).toNat)).toNat)], (Wd S L F G h))) (by decide) [0, 298, 0, 0, 298, 0, 0, 0, 0, 0, 0] rfl ⟨⟨⟨⟨trivial, ⟨Nat.le_of_ble_eq_true rfl, rfl, hh _ _ _ rfl⟩⟩, ⟨Nat.le_of_ble_eq_true rfl, rfl, hh _ _ _ rfl⟩⟩, (ix ⟨Nat.le_of_ble_eq_true rfl, rfl⟩ g4)⟩, (ix ⟨Nat.le_of_ble_eq_true rfl, rfl⟩ g5)⟩ ?_
    refine wp.fin (v := some (vi (F 298 (22 + (F 298 (46 + v3).toNat)).toNat))) (by decide) am_m116 rfl ⟨_, rfl, Or.inl rfl, rfl⟩ ?_
    show wp 7 117 (11, [some (vr 297), some (vi v3)], [vi (F 298 (22 + (F 298 (46 + v3).toNat)).toNat), vi 6, vr 298], (Wd S L F G h)) _
    obtain ⟨g6, H⟩ := H
    obtain ⟨g7, H⟩ := H
    refine pt117 (s' := (13, [some (vr 297), some (vi v3)], [vi (F 298 (6 + (F 298 (22 + (F 298 (46 + v3).toNat)).toNat)).toNat)], (Wd S L F G h))) (by decide) [0, 0] rfl ⟨trivial, (ix ⟨Nat.le_of_ble_eq_true rfl, rfl⟩ g6)⟩ ?_
    by_cases c8 : (F 298 (6 + (F 298 (22 + (F 298 (46 + v3).toNat)).toNat)).toNat) = 0
    · rw [if_pos c8] at H
      refine pt117 (s' := (21, [some (vr 297), some (vi v3)], [vi 1], (Wd S L F G h))) (by decide) [0, 0, 0] rfl ⟨trivial, ⟨g7, c8⟩⟩ ?_
      refine wp.fin (v := some (vi 1)) (by decide) am_m117 rfl ⟨_, rfl, Or.inr ⟨rfl, Or.inr rfl⟩, rfl⟩ ?_
      show wp 9 136 (13, [some (vr 297), some (vi a1), some (vi a2), some (vi a3), none, none, none, none, none], [vi 1], (Wd S L F G h)) _
      refine pt136 (s' := (17, [some (vr 297), some (vi a1), some (vi a2), some (vi a3), none, none, none, none, none], [vj 0], (Wd S L F G h))) (by decide) [0, 0] rfl ⟨trivial, ⟨(by decide : R32 1), (by decide : ¬ (1 : Int) = (0 : Int))⟩⟩ ?_
      exact wp.fin (v := some (vj 0)) (by decide) am_m136 rfl ⟨_, rfl, rfl, rfl⟩ H
    · rw [if_neg c8] at H
      refine pt117 (s' := (21, [some (vr 297), some (vi v3)], [vi 0], (Wd S L F G h))) (by decide) [1, 0] rfl ⟨trivial, ⟨g7, c8⟩⟩ ?_
      refine wp.fin (v := some (vi 0)) (by decide) am_m117 rfl ⟨_, rfl, Or.inr ⟨rfl, Or.inl rfl⟩, rfl⟩ ?_
      show wp 9 136 (13, [some (vr 297), some (vi a1), some (vi a2), some (vi a3), none, none, none, none, none], [vi 0], (Wd S L F G h)) _
      obtain ⟨g9, H⟩ := H
      obtain ⟨g10, H⟩ := H
      refine pt136 (s' := (20, [some (vr 297), some (vi a1), some (vi a2), some (vi a3), none, none, none, none, none], [vi a3, vi a1], (Wd S L F G h))) (by decide) [1, 0, 0] rfl ⟨trivial, ⟨(by decide : R32 0), (by decide : (0 : Int) = (0 : Int))⟩⟩ ?_
      by_cases c11 : a3 ≤ a1
      · rw [if_pos c11] at H
        refine pt136 (s' := (36, [some (vr 297), some (vi a1), some (vi a2), some (vi a3), some (vi (a1 - a3)), none, none, none, none], [vr 297, vi (a1 + a3)], (Wd S L F G h))) (by decide) [1, 0, 0, 0, 0, 0, 0, 0, 0] rfl ⟨trivial, ⟨⟨g9, g10⟩, c11⟩⟩ ?_
        refine wp.cl am_m136 rfl am_m122 8 [vr 297] [vi (a1 + a3)] rfl (Nat.le_of_ble_eq_true rfl) (Nat.le_of_ble_eq_true rfl) rfl (Nat.le_of_ble_eq_true rfl) rfl (Nat.le_of_ble_eq_true rfl) (Nat.le_of_ble_eq_true rfl) ⟨_, _, rfl, Nat.le_of_ble_eq_true rfl, rfl⟩ ?_
        refine pt122 (s' := (7, [some (vr 297)], [vi (F 298 0), vr 297], (Wd S L F G h))) (by decide) [0, 0, 298, 0, 0] rfl ⟨⟨trivial, ⟨Nat.le_of_ble_eq_true rfl, rfl, hh _ _ _ rfl⟩⟩, (ix ⟨Nat.le_of_ble_eq_true rfl, rfl⟩ (by decide : (0 : Int) ≤ 0 ∧ (0 : Int) < 134))⟩ ?_
        refine wp.cl am_m122 rfl am_m120 7 [vr 297, vi (F 298 0)] [] rfl (Nat.le_of_ble_eq_true rfl) (Nat.le_of_ble_eq_true rfl) rfl (Nat.le_of_ble_eq_true rfl) rfl (Nat.le_of_ble_eq_true rfl) (Nat.le_of_ble_eq_true rfl) ⟨_, _, rfl, Nat.le_of_ble_eq_true rfl, rfl⟩ ?_
        refine wp.mono H ?_
        rintro v w1 ⟨v12, rfl, rfl, H⟩
        show wp 8 122 (10, [some (vr 297)], [vi v12], (Wd S L F G h)) _
        refine wp.fin (v := some (vi v12)) (by decide) am_m122 rfl ⟨_, rfl, Or.inl rfl, rfl⟩ ?_
        show wp 9 136 (39, [some (vr 297), some (vi a1), some (vi a2), some (vi a3), some (vi (a1 - a3)), none, none, none, none], [vi v12, vi (a1 + a3)], (Wd S L F G h)) _
        obtain ⟨g13, H⟩ := H
        obtain ⟨g14, H⟩ := H
        by_cases c15 : (a1 + a3) < v12
        · rw [if_pos c15] at H
          refine pt136 (s' := (63, [some (vr 297), some (vi a1), some (vi a2), some (vi a3), some (vi (a1 - a3)), some (vi (a1 + a3)), some (vj 0), none, some (vi (a1 - a3))], [], (Wd S L F G h))) (by decide) [1, 0, 0, 0, 0, 0, 0, 0, 0] rfl ⟨trivial, ⟨⟨g13, g14⟩, c15⟩⟩ ?_
          exact wp.weak (a := [some (vr 297), none, none, none, some (vi (a1 - a3)), some (vi (a1 + a3)), some (vj 0), none, some (vi (a1 - a3))]) ⟨rfl, rfl, rfl, rfl, rfl, trivial⟩ H
        · rw [if_neg c15] at H
          refine pt136 (s' := (43, [some (vr 297), some (vi a1), some (vi a2), some (vi a3), some (vi (a1 - a3)), none, none, none, none], [vr 297], (Wd S L F G h))) (by decide) [0, 0] rfl ⟨trivial, ⟨⟨g13, g14⟩, c15⟩⟩ ?_
          refine wp.cl am_m136 rfl am_m122 8 [vr 297] [] rfl (Nat.le_of_ble_eq_true rfl) (Nat.le_of_ble_eq_true rfl) rfl (Nat.le_of_ble_eq_true rfl) rfl (Nat.le_of_ble_eq_true rfl) (Nat.le_of_ble_eq_true rfl) ⟨_, _, rfl, Nat.le_of_ble_eq_true rfl, rfl⟩ ?_
          refine pt122 (s' := (7, [some (vr 297)], [vi (F 298 0), vr 297], (Wd S L F G h))) (by decide) [0, 0, 298, 0, 0] rfl ⟨⟨trivial, ⟨Nat.le_of_ble_eq_true rfl, rfl, hh _ _ _ rfl⟩⟩, (ix ⟨Nat.le_of_ble_eq_true rfl, rfl⟩ (by decide : (0 : Int) ≤ 0 ∧ (0 : Int) < 134))⟩ ?_
          refine wp.cl am_m122 rfl am_m120 7 [vr 297, vi (F 298 0)] [] rfl (Nat.le_of_ble_eq_true rfl) (Nat.le_of_ble_eq_true rfl) rfl (Nat.le_of_ble_eq_true rfl) rfl (Nat.le_of_ble_eq_true rfl) (Nat.le_of_ble_eq_true rfl) ⟨_, _, rfl, Nat.le_of_ble_eq_true rfl, rfl⟩ ?_
          refine wp.mono H ?_
          rintro v w1 ⟨v16, rfl, rfl, H⟩
          show wp 8 122 (10, [some (vr 297)], [vi v16], (Wd S L F G h)) _
          refine wp.fin (v := some (vi v16)) (by decide) am_m122 rfl ⟨_, rfl, Or.inl rfl, rfl⟩ ?_
          show wp 9 136 (46, [some (vr 297), some (vi a1), some (vi a2), some (vi a3), some (vi (a1 - a3)), none, none, none, none], [vi v16], (Wd S L F G h)) _
          refine pt136 (s' := (63, [some (vr 297), some (vi a1), some (vi a2), some (vi a3), some (vi (a1 - a3)), some (vi (v16 - 1)), some (vj 0), none, some (vi (a1 - a3))], [], (Wd S L F G h))) (by decide) [0, 0, 0, 0, 0, 0, 0, 0] rfl trivial ?_
          exact wp.weak (a := [some (vr 297), none, none, none, some (vi (a1 - a3)), some (vi (v16 - 1)), some (vj 0), none, some (vi (a1 - a3))]) ⟨rfl, rfl, rfl, rfl, rfl, trivial⟩ H
      · rw [if_neg c11] at H
        refine pt136 (s' := (36, [some (vr 297), some (vi a1), some (vi a2), some (vi a3), some (vi 0), none, none, none, none], [vr 297, vi (a1 + a3)], (Wd S L F G h))) (by decide) [0, 0, 0, 0, 0, 0, 0, 0] rfl ⟨trivial, ⟨⟨g9, g10⟩, c11⟩⟩ ?_
        refine wp.cl am_m136 rfl am_m122 8 [vr 297] [vi (a1 + a3)] rfl (Nat.le_of_ble_eq_true rfl) (Nat.le_of_ble_eq_true rfl) rfl (Nat.le_of_ble_eq_true rfl) rfl (Nat.le_of_ble_eq_true rfl) (Nat.le_of_ble_eq_true rfl) ⟨_, _, rfl, Nat.le_of_ble_eq_true rfl, rfl⟩ ?_
        refine pt122 (s' := (7, [some (vr 297)], [vi (F 298 0), vr 297], (Wd S L F G h))) (by decide) [0, 0, 298, 0, 0] rfl ⟨⟨trivial, ⟨Nat.le_of_ble_eq_true rfl, rfl, hh _ _ _ rfl⟩⟩, (ix ⟨Nat.le_of_ble_eq_true rfl, rfl⟩ (by decide : (0 : Int) ≤ 0 ∧ (0 : Int) < 134))⟩ ?_
        refine wp.cl am_m122 rfl am_m120 7 [vr 297, vi (F 298 0)] [] rfl (Nat.le_of_ble_eq_true rfl) (Nat.le_of_ble_eq_true rfl) rfl (Nat.le_of_ble_eq_true rfl) rfl (Nat.le_of_ble_eq_true rfl) (Nat.le_of_ble_eq_true rfl) ⟨_, _, rfl, Nat.le_of_ble_eq_true rfl, rfl⟩ ?_
        refine wp.mono H ?_
        rintro v w1 ⟨v17, rfl, rfl, H⟩
        show wp 8 122 (10, [some (vr 297)], [vi v17], (Wd S L F G h)) _
        refine wp.fin (v := some (vi v17)) (by decide) am_m122 rfl ⟨_, rfl, Or.inl rfl, rfl⟩ ?_
        show wp 9 136 (39, [some (vr 297), some (vi a1), some (vi a2), some (vi a3), some (vi 0), none, none, none, none], [vi v17, vi (a1 + a3)], (Wd S L F G h)) _
        obtain ⟨g18, H⟩ := H
        obtain ⟨g19, H⟩ := H
        by_cases c20 : (a1 + a3) < v17
        · rw [if_pos c20] at H
          refine pt136 (s' := (63, [some (vr 297), some (vi a1), some (vi a2), some (vi a3), some (vi 0), some (vi (a1 + a3)), some (vj 0), none, some (vi 0)], [], (Wd S L F G h))) (by decide) [1, 0, 0, 0, 0, 0, 0, 0, 0] rfl ⟨trivial, ⟨⟨g18, g19⟩, c20⟩⟩ ?_
          exact wp.weak (a := [some (vr 297), none, none, none, some (vi 0), some (vi (a1 + a3)), some (vj 0), none, some (vi 0)]) ⟨rfl, rfl, rfl, rfl, rfl, trivial⟩ H
        · rw [if_neg c20] at H
          refine pt136 (s' := (43, [some (vr 297), some (vi a1), some (vi a2), some (vi a3), some (vi 0), none, none, none, none], [vr 297], (Wd S L F G h))) (by decide) [0, 0] rfl ⟨trivial, ⟨⟨g18, g19⟩, c20⟩⟩ ?_
          refine wp.cl am_m136 rfl am_m122 8 [vr 297] [] rfl (Nat.le_of_ble_eq_true rfl) (Nat.le_of_ble_eq_true rfl) rfl (Nat.le_of_ble_eq_true rfl) rfl (Nat.le_of_ble_eq_true rfl) (Nat.le_of_ble_eq_true rfl) ⟨_, _, rfl, Nat.le_of_ble_eq_true rfl, rfl⟩ ?_
          refine pt122 (s' := (7, [some (vr 297)], [vi (F 298 0), vr 297], (Wd S L F G h))) (by decide) [0, 0, 298, 0, 0] rfl ⟨⟨trivial, ⟨Nat.le_of_ble_eq_true rfl, rfl, hh _ _ _ rfl⟩⟩, (ix ⟨Nat.le_of_ble_eq_true rfl, rfl⟩ (by decide : (0 : Int) ≤ 0 ∧ (0 : Int) < 134))⟩ ?_
          refine wp.cl am_m122 rfl am_m120 7 [vr 297, vi (F 298 0)] [] rfl (Nat.le_of_ble_eq_true rfl) (Nat.le_of_ble_eq_true rfl) rfl (Nat.le_of_ble_eq_true rfl) rfl (Nat.le_of_ble_eq_true rfl) (Nat.le_of_ble_eq_true rfl) ⟨_, _, rfl, Nat.le_of_ble_eq_true rfl, rfl⟩ ?_
          refine wp.mono H ?_
          rintro v w1 ⟨v21, rfl, rfl, H⟩
          show wp 8 122 (10, [some (vr 297)], [vi v21], (Wd S L F G h)) _
          refine wp.fin (v := some (vi v21)) (by decide) am_m122 rfl ⟨_, rfl, Or.inl rfl, rfl⟩ ?_
          show wp 9 136 (46, [some (vr 297), some (vi a1), some (vi a2), some (vi a3), some (vi 0), none, none, none, none], [vi v21], (Wd S L F G h)) _
          refine pt136 (s' := (63, [some (vr 297), some (vi a1), some (vi a2), some (vi a3), some (vi 0), some (vi (v21 - 1)), some (vj 0), none, some (vi 0)], [], (Wd S L F G h))) (by decide) [0, 0, 0, 0, 0, 0, 0, 0] rfl trivial ?_
          exact wp.weak (a := [some (vr 297), none, none, none, some (vi 0), some (vi (v21 - 1)), some (vj 0), none, some (vi 0)]) ⟨rfl, rfl, rfl, rfl, rfl, trivial⟩ H
  · rw [if_neg c2] at H
    obtain ⟨g22, H⟩ := H
    obtain ⟨g23, H⟩ := H
    refine pt136 (s' := (20, [some (vr 297), some (vi a1), some (vi a2), some (vi a3), none, none, none, none, none], [vi a3, vi a1], (Wd S L F G h))) (by decide) [1, 0, 0] rfl ⟨trivial, ⟨g1, c2⟩⟩ ?_
    by_cases c24 : a3 ≤ a1
    · rw [if_pos c24] at H
      refine pt136 (s' := (36, [some (vr 297), some (vi a1), some (vi a2), some (vi a3), some (vi (a1 - a3)), none, none, none, none], [vr 297, vi (a1 + a3)], (Wd S L F G h))) (by decide) [1, 0, 0, 0, 0, 0, 0, 0, 0] rfl ⟨trivial, ⟨⟨g22, g23⟩, c24⟩⟩ ?_
      refine wp.cl am_m136 rfl am_m122 8 [vr 297] [vi (a1 + a3)] rfl (Nat.le_of_ble_eq_true rfl) (Nat.le_of_ble_eq_true rfl) rfl (Nat.le_of_ble_eq_true rfl) rfl (Nat.le_of_ble_eq_true rfl) (Nat.le_of_ble_eq_true rfl) ⟨_, _, rfl, Nat.le_of_ble_eq_true rfl, rfl⟩ ?_
      refine pt122 (s' := (7, [some (vr 297)], [vi (F 298 0), vr 297], (Wd S L F G h))) (by decide) [0, 0, 298, 0, 0] rfl ⟨⟨trivial, ⟨Nat.le_of_ble_eq_true rfl, rfl, hh _ _ _ rfl⟩⟩, (ix ⟨Nat.le_of_ble_eq_true rfl, rfl⟩ (by decide : (0 : Int) ≤ 0 ∧ (0 : Int) < 134))⟩ ?_
      refine wp.cl am_m122 rfl am_m120 7 [vr 297, vi (F 298 0)] [] rfl (Nat.le_of_ble_eq_true rfl) (Nat.le_of_ble_eq_true rfl) rfl (Nat.le_of_ble_eq_true rfl) rfl (Nat.le_of_ble_eq_true rfl) (Nat.le_of_ble_eq_true rfl) ⟨_, _, rfl, Nat.le_of_ble_eq_true rfl, rfl⟩ ?_
      refine wp.mono H ?_
      rintro v w1 ⟨v25, rfl, rfl, H⟩
      show wp 8 122 (10, [some (vr 297)], [vi v25], (Wd S L F G h)) _
      refine wp.fin (v := some (vi v25)) (by decide) am_m122 rfl ⟨_, rfl, Or.inl rfl, rfl⟩ ?_
      show wp 9 136 (39, [some (vr 297), some (vi a1), some (vi a2), some (vi a3), some (vi (a1 - a3)), none, none, none, none], [vi v25, vi (a1 + a3)], (Wd S L F G h)) _
      obtain ⟨g26, H⟩ := H
      obtain ⟨g27, H⟩ := H
      by_cases c28 : (a1 + a3) < v25
      · rw [if_pos c28] at H
        refine pt136 (s' := (63, [some (vr 297), some (vi a1), some (vi a2), some (vi a3), some (vi (a1 - a3)), some (vi (a1 + a3)), some (vj 0), none, some (vi (a1 - a3))], [], (Wd S L F G h))) (by decide) [1, 0, 0, 0, 0, 0, 0, 0, 0] rfl ⟨trivial, ⟨⟨g26, g27⟩, c28⟩⟩ ?_
        exact wp.weak (a := [some (vr 297), none, none, none, some (vi (a1 - a3)), some (vi (a1 + a3)), some (vj 0), none, some (vi (a1 - a3))]) ⟨rfl, rfl, rfl, rfl, rfl, trivial⟩ H
      · rw [if_neg c28] at H
        refine pt136 (s' := (43, [some (vr 297), some (vi a1), some (vi a2), some (vi a3), some (vi (a1 - a3)), none, none, none, none], [vr 297], (Wd S L F G h))) (by decide) [0, 0] rfl ⟨trivial, ⟨⟨g26, g27⟩, c28⟩⟩ ?_
        refine wp.cl am_m136 rfl am_m122 8 [vr 297] [] rfl (Nat.le_of_ble_eq_true rfl) (Nat.le_of_ble_eq_true rfl) rfl (Nat.le_of_ble_eq_true rfl) rfl (Nat.le_of_ble_eq_true rfl) (Nat.le_of_ble_eq_true rfl) ⟨_, _, rfl, Nat.le_of_ble_eq_true rfl, rfl⟩ ?_
        refine pt122 (s' := (7, [some (vr 297)], [vi (F 298 0), vr 297], (Wd S L F G h))) (by decide) [0, 0, 298, 0, 0] rfl ⟨⟨trivial, ⟨Nat.le_of_ble_eq_true rfl, rfl, hh _ _ _ rfl⟩⟩, (ix ⟨Nat.le_of_ble_eq_true rfl, rfl⟩ (by decide : (0 : Int) ≤ 0 ∧ (0 : Int) < 134))⟩ ?_
        refine wp.cl am_m122 rfl am_m120 7 [vr 297, vi (F 298 0)] [] rfl (Nat.le_of_ble_eq_true rfl) (Nat.le_of_ble_eq_true rfl) rfl (Nat.le_of_ble_eq_true rfl) rfl (Nat.le_of_ble_eq_true rfl) (Nat.le_of_ble_eq_true rfl) ⟨_, _, rfl, Nat.le_of_ble_eq_true rfl, rfl⟩ ?_
        refine wp.mono H ?_
        rintro v w1 ⟨v29, rfl, rfl, H⟩
        show wp 8 122 (10, [some (vr 297)], [vi v29], (Wd S L F G h)) _
        refine wp.fin (v := some (vi v29)) (by decide) am_m122 rfl ⟨_, rfl, Or.inl rfl, rfl⟩ ?_
        show wp 9 136 (46, [some (vr 297), some (vi a1), some (vi a2), some (vi a3), some (vi (a1 - a3)), none, none, none, none], [vi v29], (Wd S L F G h)) _
        refine pt136 (s' := (63, [some (vr 297), some (vi a1), some (vi a2), some (vi a3), some (vi (a1 - a3)), some (vi (v29 - 1)), some (vj 0), none, some (vi (a1 - a3))], [], (Wd S L F G h))) (by decide) [0, 0, 0, 0, 0, 0, 0, 0] rfl trivial ?_
        exact wp.weak (a := [some (vr 297), none, none, none, some (vi (a1 - a3)), some (vi (v29 - 1)), some (vj 0), none, some (vi (a1 - a3))]) ⟨rfl, rfl, rfl, rfl, rfl, trivial⟩ H
    · rw [if_neg c24] at H
      refine pt136 (s' := (36, [some (vr 297), some (vi a1), some (vi a2), some (vi a3), some (vi 0), none, none, none, none], [vr 297, vi (a1 + a3)], (Wd S L F G h))) (by decide) [0, 0, 0, 0, 0, 0, 0, 0] rfl ⟨trivial, ⟨⟨g22, g23⟩, c24⟩⟩ ?_
      refine wp.cl am_m136 rfl am_m122 8 [vr 297] [vi (a1 + a3)] rfl (Nat.le_of_ble_eq_true rfl) (Nat.le_of_ble_eq_true rfl) rfl (Nat.le_of_ble_eq_true rfl) rfl (Nat.le_of_ble_eq_true rfl) (Nat.le_of_ble_eq_true rfl) ⟨_, _, rfl, Nat.le_of_ble_eq_true rfl, rfl⟩ ?_
      refine pt122 (s' := (7, [some (vr 297)], [vi (F 298 0), vr 297], (Wd S L F G h))) (by decide) [0, 0, 298, 0, 0] rfl ⟨⟨trivial, ⟨Nat.le_of_ble_eq_true rfl, rfl, hh _ _ _ rfl⟩⟩, (ix ⟨Nat.le_of_ble_eq_true rfl, rfl⟩ (by decide : (0 : Int) ≤ 0 ∧ (0 : Int) < 134))⟩ ?_
      refine wp.cl am_m122 rfl am_m120 7 [vr 297, vi (F 298 0)] [] rfl (Nat.le_of_ble_eq_true rfl) (Nat.le_of_ble_eq_true rfl) rfl (Nat.le_of_ble_eq_true rfl) rfl (Nat.le_of_ble_eq_true rfl) (Nat.le_of_ble_eq_true rfl) ⟨_, _, rfl, Nat.le_of_ble_eq_true rfl, rfl⟩ ?_
      refine wp.mono H ?_
      rintro v w1 ⟨v30, rfl, rfl, H⟩
      show wp 8 122 (10, [some (vr 297)], [vi v30], (Wd S L F G h)) _
      refine wp.fin (v := some (vi v30)) (by decide) am_m122 rfl ⟨_, rfl, Or.inl rfl, rfl⟩ ?_
      show wp 9 136 (39, [some (vr 297), some (vi a1), some (vi a2), some (vi a3), some (vi 0), none, none, none, none], [vi v30, vi (a1 + a3)], (Wd S L F G h)) _
      obtain ⟨g31, H⟩ := H
      obtain ⟨g32, H⟩ := H
      by_cases c33 : (a1 + a3) < v30
      · rw [if_pos c33] at H
        refine pt136 (s' := (63, [some (vr 297), some (vi a1), some (vi a2), some (vi a3), some (vi 0), some (vi (a1 + a3)), some (vj 0), none, some (vi 0)], [], (Wd S L F G h))) (by decide) [1, 0, 0, 0, 0, 0, 0, 0, 0] rfl ⟨trivial, ⟨⟨g31, g32⟩, c33⟩⟩ ?_
        exact wp.weak (a := [some (vr 297), none, none, none, some (vi 0), some (vi (a1 + a3)), some (vj 0), none, some (vi 0)]) ⟨rfl, rfl, rfl, rfl, rfl, trivial⟩ H
      · rw [if_neg c33] at H
        refine pt136 (s' := (43, [some (vr 297), some (vi a1), some (vi a2), some (vi a3), some (vi 0), none, none, none, none], [vr 297], (Wd S L F G h))) (by decide) [0, 0] rfl ⟨trivial, ⟨⟨g31, g32⟩, c33⟩⟩ ?_
        refine wp.cl am_m136 rfl am_m122 8 [vr 297] [] rfl (Nat.le_of_ble_eq_true rfl) (Nat.le_of_ble_eq_true rfl) rfl (Nat.le_of_ble_eq_true rfl) rfl (Nat.le_of_ble_eq_true rfl) (Nat.le_of_ble_eq_true rfl) ⟨_, _, rfl, Nat.le_of_ble_eq_true rfl, rfl⟩ ?_
        refine pt122 (s' := (7, [some (vr 297)], [vi (F 298 0), vr 297], (Wd S L F G h))) (by decide) [0, 0, 298, 0, 0] rfl ⟨⟨trivial, ⟨Nat.le_of_ble_eq_true rfl, rfl, hh _ _ _ rfl⟩⟩, (ix ⟨Nat.le_of_ble_eq_true rfl, rfl⟩ (by decide : (0 : Int) ≤ 0 ∧ (0 : Int) < 134))⟩ ?_
        refine wp.cl am_m122 rfl am_m120 7 [vr 297, vi (F 298 0)] [] rfl (Nat.le_of_ble_eq_true rfl) (Nat.le_of_ble_eq_true rfl) rfl (Nat.le_of_ble_eq_true rfl) rfl (Nat.le_of_ble_eq_true rfl) (Nat.le_of_ble_eq_true rfl) ⟨_, _, rfl, Nat.le_of_ble_eq_true rfl, rfl⟩ ?_
        refine wp.mono H ?_
        rintro v w1 ⟨v34, rfl, rfl, H⟩
        show wp 8 122 (10, [some (vr 297)], [vi v34], (Wd S L F G h)) _
        refine wp.fin (v := some (vi v34)) (by decide) am_m122 rfl ⟨_, rfl, Or.inl rfl, rfl⟩ ?_
        show wp 9 136 (46, [some (vr 297), some (vi a1), some (vi a2), some (vi a3), some (vi 0), none, none, none, none], [vi v34], (Wd S L F G h)) _
        refine pt136 (s' := (63, [some (vr 297), some (vi a1), some (vi a2), some (vi a3), some (vi 0), some (vi (v34 - 1)), some (vj 0), none, some (vi 0)], [], (Wd S L F G h))) (by decide) [0, 0, 0, 0, 0, 0, 0, 0] rfl trivial ?_
        exact wp.weak (a := [some (vr 297), none, none, none, some (vi 0), some (vi (v34 - 1)), some (vj 0), none, some (vi 0)]) ⟨rfl, rfl, rfl, rfl, rfl, trivial⟩ H
set_option maxRecDepth 100000 in
set_option maxHeartbeats 4000000 in
theorem T136_63 {S L : Nat} {F G : Nat → Nat → Int} {h : Nat → Nat → Option Nat} (hh : RfH h) {x4 : Int} {x5 : Int} {x6 : Int} {x8 : Int}  {Q : Option V2 → W2 → Prop}
    (H : (R32 x8 ∧
 R32 x5 ∧
 (if x5 < x8 then
  (R32 ((x5 - x4) + 1) ∧
  ((0 : Int) ≤ 420 ∧ (420 : Int) ≤ 9223372036854775807 ∧ 0 < ((x5 - x4) + 1) ∧ ((x5 - x4) + 1) ≤ 9223372036854775807) ∧
  Q (some (vj (x6 * (420 / ((x5 - x4) + 1))))) (Wd S L F G h))
 else
  C124_0 x8 (Wd S L F G h) (fun v w1 => ∃ (v6 : Int), v = some (vi v6) ∧ w1 = (Wd S L F G h) ∧
   ((0 ≤ v6 ∧ v6 < 12) ∧
   C136_63 x4 x5 (x6 + (G 310 v6.toNat)) (x8 + 1) (Wd S L F G h) Q))))) : C136_63 x4 x5 x6 x8 (Wd S L F G h) Q := by
  obtain ⟨g1, H⟩ := H
  obtain ⟨g2, H⟩ := H
  refine pt136 (s' := (67, [some (vr 297), none, none, none, some (vi x4), some (vi x5), some (vj x6), none, some (vi x8)], [vi x5, vi x8], (Wd S L F G h))) (by decide) [0, 0] rfl trivial ?_
  by_cases c3 : x5 < x8
  · rw [if_pos c3] at H
    obtain ⟨g4, H⟩ := H
    obtain ⟨g5, H⟩ := H
    refine pt136 (s' := (107, [some (vr 297), none, none, none, some (vi x4), some (vi x5), some (vj x6), none, some (vi x8)], [vj (x6 * (420 / ((x5 - x4) + 1)))], (Wd S L F G h))) (by decide) [1, 0, 0, 0, 0, 0, 0, 0, 0, 0, 0] rfl ⟨⟨⟨trivial, ⟨⟨g1, g2⟩, c3⟩⟩, g4⟩, g5⟩ ?_
    exact wp.fin (v := some (vj (x6 * (420 / ((x5 - x4) + 1))))) (by decide) am_m136 rfl ⟨_, rfl, rfl, rfl⟩ H
  · rw [if_neg c3] at H
    refine pt136 (s' := (79, [some (vr 297), none, none, none, some (vi x4), some (vi x5), some (vj x6), none, some (vi x8)], [vi x8, vr 297, vr 310, vj x6], (Wd S L F G h))) (by decide) [0, 0, 0, 310, 0, 0] rfl ⟨⟨trivial, ⟨⟨g1, g2⟩, c3⟩⟩, ⟨Nat.le_of_ble_eq_true rfl, rfl, hh _ _ _ rfl⟩⟩ ?_
    refine wp.cl am_m136 rfl am_m124 6 [vr 297, vi x8] [vr 310, vj x6] rfl (Nat.le_of_ble_eq_true rfl) (Nat.le_of_ble_eq_true rfl) rfl (Nat.le_of_ble_eq_true rfl) rfl (Nat.le_of_ble_eq_true rfl) (Nat.le_of_ble_eq_true rfl) ⟨_, _, rfl, Nat.le_of_ble_eq_true rfl, rfl⟩ ?_
    refine wp.mono H ?_
    rintro v w1 ⟨v6, rfl, rfl, H⟩
    show wp 9 136 (82, [some (vr 297), none, none, none, some (vi x4), some (vi x5), some (vj x6), none, some (vi x8)], [vi v6, vr 310, vj x6], (Wd S L F G h)) _
    obtain ⟨g7, H⟩ := H
    refine pt136 (s' := (63, [some (vr 297), none, none, none, some (vi x4), some (vi x5), some (vj (x6 + (G 310 v6.toNat))), none, some (vi (x8 + 1))], [], (Wd S L F G h))) (by decide) [0, 0, 0, 0, 0] rfl ⟨trivial, (ix ⟨Nat.le_of_ble_eq_true rfl, rfl⟩ g7)⟩ ?_
    exact wp.weak (a := [some (vr 297), none, none, none, some (vi x4), some (vi x5), some (vj (x6 + (G 310 v6.toNat))), none, some (vi (x8 + 1))]) ⟨rfl, rfl, rfl, rfl, rfl, trivial⟩ H
set_option maxRecDepth 100000 in
set_option maxHeartbeats 4000000 in
theorem T137_0 {S L : Nat} {F G : Nat → Nat → Int} {h : Nat → Nat → Option Nat} (hh : RfH h) {a1 : Int} {a2 : Int} {a3 : Int}  {Q : Option V2 → W2 → Prop}
    (H : (R32 a1 ∧
 C120_0 (F 298 0) (Wd S L F G h) (fun v w1 => ∃ (v2 : Int), v = some (vi v2) ∧ w1 = (Wd S L F G h) ∧
  (R32 (v2 - 1) ∧
  (if a1 < 0 then
   Q (some (vj (-1))) (Wd S L F G h)
  else
   (if (v2 - 1) < a1 then
    Q (some (vj (-1))) (Wd S L F G h)
   else
    (R32 a2 ∧
    (if a2 < 0 then
     Q (some (vj (-1))) (Wd S L F G h)
    else
     (if 1 < a2 then
      Q (some (vj (-1))) (Wd S L F G h)
     else
      (R32 a3 ∧
      (if a3 < 0 then
       Q (some (vj (-1))) (Wd S L F G h)
      else
       (if 1 < a3 then
        Q (some (vj (-1))) (Wd S L F G h)
       else
        C121_0  (Wd S L F G h) (fun v w1 => ∃ (F12 : Nat → Nat → Int), v = none ∧ w1 = (Wd S L F12 G h) ∧
         C135_0 a2 (Wd S L F12 G h) (fun v w1 => ∃ (F13 : Nat → Nat → Int) (G14 : Nat → Nat → Int), v = none ∧ w1 = (Wd S L F13 G14 h) ∧
          C136_0 a1 a2 (F13 298 4) (Wd S L F13 G14 h) (fun v w1 => ∃ (v15 : Int), v = some (vj v15) ∧ w1 = (Wd S L F13 G14 h) ∧
           C114_0 v15 151351200 a3 (Wd S L F13 G14 h) (fun v w1 => ∃ (v16 : Int), v = some (vj v16) ∧ w1 = (Wd S L F13 G14 h) ∧
            Q (some (vj v16)) (Wd S L F13 G14 h))))))))))))))))) : C137_0 a1 a2 a3 (Wd S L F G h) Q := by
  obtain ⟨g1, H⟩ := H
  refine pt137 (s' := (4, [some (vr 297), some (vi a1), some (vi a2), some (vi a3)], [vr 297, vj 0, vj a1], (Wd S L F G h))) (by decide) [0, 0, 0, 0] rfl ⟨trivial, g1⟩ ?_
  refine wp.cl am_m137 rfl am_m122 8 [vr 297] [vj 0, vj a1] rfl (Nat.le_of_ble_eq_true rfl) (Nat.le_of_ble_eq_true rfl) rfl (Nat.le_of_ble_eq_true rfl) rfl (Nat.le_of_ble_eq_true rfl) (Nat.le_of_ble_eq_true rfl) ⟨_, _, rfl, Nat.le_of_ble_eq_true rfl, rfl⟩ ?_
  refine pt122 (s' := (7, [some (vr 297)], [vi (F 298 0), vr 297], (Wd S L F G h))) (by decide) [0, 0, 298, 0, 0] rfl ⟨⟨trivial, ⟨Nat.le_of_ble_eq_true rfl, rfl, hh _ _ _ rfl⟩⟩, (ix ⟨Nat.le_of_ble_eq_true rfl, rfl⟩ (by decide : (0 : Int) ≤ 0 ∧ (0 : Int) < 134))⟩ ?_
  refine wp.cl am_m122 rfl am_m120 7 [vr 297, vi (F 298 0)] [] rfl (Nat.le_of_ble_eq_true rfl) (Nat.le_of_ble_eq_true rfl) rfl (Nat.le_of_ble_eq_true rfl) rfl (Nat.le_of_ble_eq_true rfl) (Nat.le_of_ble_eq_true rfl) ⟨_, _, rfl, Nat.le_of_ble_eq_true rfl, rfl⟩ ?_
  refine wp.mono H ?_
  rintro v w1 ⟨v2, rfl, rfl, H⟩
  show wp 8 122 (10, [some (vr 297)], [vi v2], (Wd S L F G h)) _
  refine wp.fin (v := some (vi v2)) (by decide) am_m122 rfl ⟨_, rfl, Or.inl rfl, rfl⟩ ?_
  show wp 10 137 (7, [some (vr 297), some (vi a1), some (vi a2), some (vi a3)], [vi v2, vj 0, vj a1], (Wd S L F G h)) _
  obtain ⟨g3, H⟩ := H
  refine pt137 (s' := (10, [some (vr 297), some (vi a1), some (vi a2), some (vi a3)], [vj (v2 - 1), vj 0, vj a1], (Wd S L F G h))) (by decide) [0, 0, 0] rfl ⟨trivial, g3⟩ ?_
  refine wp.cl am_m137 rfl am_m112 6 [vj a1, vj 0, vj (v2 - 1)] [] rfl (Nat.le_of_ble_eq_true rfl) (Nat.le_of_ble_eq_true rfl) rfl (Nat.le_of_ble_eq_true rfl) rfl (Nat.le_of_ble_eq_true rfl) (Nat.le_of_ble_eq_true rfl) trivial ?_
  refine pt112 (s' := (3, [some (vj a1), none, some (vj 0), none, some (vj (v2 - 1)), none], [vi (y_cmp a1 0)], (Wd S L F G h))) (by decide) [0, 0, 0] rfl ⟨trivial, ⟨(r64 g1), (by decide : R64 0)⟩⟩ ?_
  by_cases c4 : a1 < 0
  · rw [if_pos c4] at H
    refine pt112 (s' := (18, [some (vj a1), none, some (vj 0), none, some (vj (v2 - 1)), none], [vi 0], (Wd S L F G h))) (by decide) [1, 0] rfl ⟨trivial, ⟨y_cmp_r32, (y_cmp_lt.mpr c4)⟩⟩ ?_
    refine wp.fin (v := some (vi 0)) (by decide) am_m112 rfl ⟨_, rfl, Or.inr ⟨rfl, Or.inl rfl⟩, rfl⟩ ?_
    show wp 10 137 (13, [some (vr 297), some (vi a1), some (vi a2), some (vi a3)], [vi 0], (Wd S L F G h)) _
    refine pt137 (s' := (39, [some (vr 297), some (vi a1), some (vi a2), some (vi a3)], [vj (-1)], (Wd S L F G h))) (by decide) [1, 0] rfl ⟨trivial, ⟨(by decide : R32 0), (by decide : (0 : Int) = (0 : Int))⟩⟩ ?_
    exact wp.fin (v := some (vj (-1))) (by decide) am_m137 rfl ⟨_, rfl, rfl, rfl⟩ H
  · rw [if_neg c4] at H
    refine pt112 (s' := (10, [some (vj a1), none, some (vj 0), none, some (vj (v2 - 1)), none], [vi (y_cmp a1 (v2 - 1))], (Wd S L F G h))) (by decide) [0, 0, 0, 0] rfl ⟨⟨trivial, ⟨y_cmp_r32, (fun e => c4 (y_cmp_lt.mp e))⟩⟩, ⟨(r64 g1), (r64 g3)⟩⟩ ?_
    by_cases c5 : (v2 - 1) < a1
    · rw [if_pos c5] at H
      refine pt112 (s' := (18, [some (vj a1), none, some (vj 0), none, some (vj (v2 - 1)), none], [vi 0], (Wd S L F G h))) (by decide) [1, 0] rfl ⟨trivial, ⟨y_cmp_r32, (y_cmp_gt.mpr c5)⟩⟩ ?_
      refine wp.fin (v := some (vi 0)) (by decide) am_m112 rfl ⟨_, rfl, Or.inr ⟨rfl, Or.inl rfl⟩, rfl⟩ ?_
      show wp 10 137 (13, [some (vr 297), some (vi a1), some (vi a2), some (vi a3)], [vi 0], (Wd S L F G h)) _
      refine pt137 (s' := (39, [some (vr 297), some (vi a1), some (vi a2), some (vi a3)], [vj (-1)], (Wd S L F G h))) (by decide) [1, 0] rfl ⟨trivial, ⟨(by decide : R32 0), (by decide : (0 : Int) = (0 : Int))⟩⟩ ?_
      exact wp.fin (v := some (vj (-1))) (by decide) am_m137 rfl ⟨_, rfl, rfl, rfl⟩ H
    · rw [if_neg c5] at H
      refine pt112 (s' := (18, [some (vj a1), none, some (vj 0), none, some (vj (v2 - 1)), none], [vi 1], (Wd S L F G h))) (by decide) [0, 0, 0] rfl ⟨trivial, ⟨y_cmp_r32, (fun e => c5 (y_cmp_gt.mp e))⟩⟩ ?_
      refine wp.fin (v := some (vi 1)) (by decide) am_m112 rfl ⟨_, rfl, Or.inr ⟨rfl, Or.inr rfl⟩, rfl⟩ ?_
      show wp 10 137 (13, [some (vr 297), some (vi a1), some (vi a2), some (vi a3)], [vi 1], (Wd S L F G h)) _
      obtain ⟨g6, H⟩ := H
      refine pt137 (s' := (20, [some (vr 297), some (vi a1), some (vi a2), some (vi a3)], [vj 1, vj 0, vj a2], (Wd S L F G h))) (by decide) [0, 0, 0, 0, 0] rfl ⟨⟨trivial, ⟨(by decide : R32 1), (by decide : ¬ (1 : Int) = (0 : Int))⟩⟩, g6⟩ ?_
      refine wp.cl am_m137 rfl am_m112 6 [vj a2, vj 0, vj 1] [] rfl (Nat.le_of_ble_eq_true rfl) (Nat.le_of_ble_eq_true rfl) rfl (Nat.le_of_ble_eq_true rfl) rfl (Nat.le_of_ble_eq_true rfl) (Nat.le_of_ble_eq_true rfl) trivial ?_
      refine pt112 (s' := (3, [some (vj a2), none, some (vj 0), none, some (vj 1), none], [vi (y_cmp a2 0)], (Wd S L F G h))) (by decide) [0, 0, 0] rfl ⟨trivial, ⟨(r64 g6), (by decide : R64 0)⟩⟩ ?_
      by_cases c7 : a2 < 0
      · rw [if_pos c7] at H
        refine pt112 (s' := (18, [some (vj a2), none, some (vj 0), none, some (vj 1), none], [vi 0], (Wd S L F G h))) (by decide) [1, 0] rfl ⟨trivial, ⟨y_cmp_r32, (y_cmp_lt.mpr c7)⟩⟩ ?_
        refine wp.fin (v := some (vi 0)) (by decide) am_m112 rfl ⟨_, rfl, Or.inr ⟨rfl, Or.inl rfl⟩, rfl⟩ ?_
        show wp 10 137 (23, [some (vr 297), some (vi a1), some (vi a2), some (vi a3)], [vi 0], (Wd S L F G h)) _
        refine pt137 (s' := (39, [some (vr 297), some (vi a1), some (vi a2), some (vi a3)], [vj (-1)], (Wd S L F G h))) (by decide) [1, 0] rfl ⟨trivial, ⟨(by decide : R32 0), (by decide : (0 : Int) = (0 : Int))⟩⟩ ?_
        exact wp.fin (v := some (vj (-1))) (by decide) am_m137 rfl ⟨_, rfl, rfl, rfl⟩ H
      · rw [if_neg c7] at H
        refine pt112 (s' := (10, [some (vj a2), none, some (vj 0), none, some (vj 1), none], [vi (y_cmp a2 1)], (Wd S L F G h))) (by decide) [0, 0, 0, 0] rfl ⟨⟨trivial, ⟨y_cmp_r32, (fun e => c7 (y_cmp_lt.mp e))⟩⟩, ⟨(r64 g6), (by decide : R64 1)⟩⟩ ?_
        by_cases c8 : 1 < a2
        · rw [if_pos c8] at H
          refine pt112 (s' := (18, [some (vj a2), none, some (vj 0), none, some (vj 1), none], [vi 0], (Wd S L F G h))) (by decide) [1, 0] rfl ⟨trivial, ⟨y_cmp_r32, (y_cmp_gt.mpr c8)⟩⟩ ?_
          refine wp.fin (v := some (vi 0)) (by decide) am_m112 rfl ⟨_, rfl, Or.inr ⟨rfl, Or.inl rfl⟩, rfl⟩ ?_
          show wp 10 137 (23, [some (vr 297), some (vi a1), some (vi a2), some (vi a3)], [vi 0], (Wd S L F G h)) _
          refine pt137 (s' := (39, [some (vr 297), some (vi a1), some (vi a2), some (vi a3)], [vj (-1)], (Wd S L F G h))) (by decide) [1, 0] rfl ⟨trivial, ⟨(by decide : R32 0), (by decide : (0 : Int) = (0 : Int))⟩⟩ ?_
          exact wp.fin (v := some (vj (-1))) (by decide) am_m137 rfl ⟨_, rfl, rfl, rfl⟩ H
        · rw [if_neg c8] at H
          refine pt112 (s' := (18, [some (vj a2), none, some (vj 0), none, some (vj 1), none], [vi 1], (Wd S L F G h))) (by decide) [0, 0, 0] rfl ⟨trivial, ⟨y_cmp_r32, (fun e => c8 (y_cmp_gt.mp e))⟩⟩ ?_
          refine wp.fin (v := some (vi 1)) (by decide) am_m112 rfl ⟨_, rfl, Or.inr ⟨rfl, Or.inr rfl⟩, rfl⟩ ?_
          show wp 10 137 (23, [some (vr 297), some (vi a1), some (vi a2), some (vi a3)], [vi 1], (Wd S L F G h)) _
          obtain ⟨g9, H⟩ := H
          refine pt137 (s' := (30, [some (vr 297), some (vi a1), some (vi a2), some (vi a3)], [vj 1, vj 0, vj a3], (Wd S L F G h))) (by decide) [0, 0, 0, 0, 0] rfl ⟨⟨trivial, ⟨(by decide : R32 1), (by decide : ¬ (1 : Int) = (0 : Int))⟩⟩, g9⟩ ?_
          refine wp.cl am_m137 rfl am_m112 6 [vj a3, vj 0, vj 1] [] rfl (Nat.le_of_ble_eq_true rfl) (Nat.le_of_ble_eq_true rfl) rfl (Nat.le_of_ble_eq_true rfl) rfl (Nat.le_of_ble_eq_true rfl) (Nat.le_of_ble_eq_true rfl) trivial ?_
          refine pt112 (s' := (3, [some (vj a3), none, some (vj 0), none, some (vj 1), none], [vi (y_cmp a3 0)], (Wd S L F G h))) (by decide) [0, 0, 0] rfl ⟨trivial, ⟨(r64 g9), (by decide : R64 0)⟩⟩ ?_
          by_cases c10 : a3 < 0
          · rw [if_pos c10] at H
            refine pt112 (s' := (18, [some (vj a3), none, some (vj 0), none, some (vj 1), none], [vi 0], (Wd S L F G h))) (by decide) [1, 0] rfl ⟨trivial, ⟨y_cmp_r32, (y_cmp_lt.mpr c10)⟩⟩ ?_
            refine wp.fin (v := some (vi 0)) (by decide) am_m112 rfl ⟨_, rfl, Or.inr ⟨rfl, Or.inl rfl⟩, rfl⟩ ?_
            show wp 10 137 (33, [some (vr 297), some (vi a1), some (vi a2), some (vi a3)], [vi 0], (Wd S L F G h)) _
            refine pt137 (s' := (39, [some (vr 297), some (vi a1), some (vi a2), some (vi a3)], [vj (-1)], (Wd S L F G h))) (by decide) [0, 0] rfl ⟨trivial, ⟨(by decide : R32 0), (by decide : (0 : Int) = (0 : Int))⟩⟩ ?_
            exact wp.fin (v := some (vj (-1))) (by decide) am_m137 rfl ⟨_, rfl, rfl, rfl⟩ H
          · rw [if_neg c10] at H
            refine pt112 (s' := (10, [some (vj a3), none, some (vj 0), none, some (vj 1), none], [vi (y_cmp a3 1)], (Wd S L F G h))) (by decide) [0, 0, 0, 0] rfl ⟨⟨trivial, ⟨y_cmp_r32, (fun e => c10 (y_cmp_lt.mp e))⟩⟩, ⟨(r64 g9), (by decide : R64 1)⟩⟩ ?_
            by_cases c11 : 1 < a3
            · rw [if_pos c11] at H
              refine pt112 (s' := (18, [some (vj a3), none, some (vj 0), none, some (vj 1), none], [vi 0], (Wd S L F G h))) (by decide) [1, 0] rfl ⟨trivial, ⟨y_cmp_r32, (y_cmp_gt.mpr c11)⟩⟩ ?_
              refine wp.fin (v := some (vi 0)) (by decide) am_m112 rfl ⟨_, rfl, Or.inr ⟨rfl, Or.inl rfl⟩, rfl⟩ ?_
              show wp 10 137 (33, [some (vr 297), some (vi a1), some (vi a2), some (vi a3)], [vi 0], (Wd S L F G h)) _
              refine pt137 (s' := (39, [some (vr 297), some (vi a1), some (vi a2), some (vi a3)], [vj (-1)], (Wd S L F G h))) (by decide) [0, 0] rfl ⟨trivial, ⟨(by decide : R32 0), (by decide : (0 : Int) = (0 : Int))⟩⟩ ?_
              exact wp.fin (v := some (vj (-1))) (by decide) am_m137 rfl ⟨_, rfl, rfl, rfl⟩ H
            · rw [if_neg c11] at H
              refine pt112 (s' := (18, [some (vj a3), none, some (vj 0), none, some (vj 1), none], [vi 1], (Wd S L F G h))) (by decide) [0, 0, 0] rfl ⟨trivial, ⟨y_cmp_r32, (fun e => c11 (y_cmp_gt.mp e))⟩⟩ ?_
              refine wp.fin (v := some (vi 1)) (by decide) am_m112 rfl ⟨_, rfl, Or.inr ⟨rfl, Or.inr rfl⟩, rfl⟩ ?_
              show wp 10 137 (33, [some (vr 297), some (vi a1), some (vi a2), some (vi a3)], [vi 1], (Wd S L F G h)) _
              refine pt137 (s' := (41, [some (vr 297), some (vi a1), some (vi a2), some (vi a3)], [vr 297], (Wd S L F G h))) (by decide) [1, 0] rfl ⟨trivial, ⟨(by decide : R32 1), (by decide : ¬ (1 : Int) = (0 : Int))⟩⟩ ?_
              refine wp.cl am_m137 rfl am_m121 8 [vr 297] [] rfl (Nat.le_of_ble_eq_true rfl) (Nat.le_of_ble_eq_true rfl) rfl (Nat.le_of_ble_eq_true rfl) rfl (Nat.le_of_ble_eq_true rfl) (Nat.le_of_ble_eq_true rfl) ⟨_, _, rfl, Nat.le_of_ble_eq_true rfl, rfl⟩ ?_
              refine wp.mono H ?_
              rintro v w1 ⟨F12, rfl, rfl, H⟩
              show wp 10 137 (44, [some (vr 297), some (vi a1), some (vi a2), some (vi a3)], [], (Wd S L F12 G h)) _
              refine pt137 (s' := (46, [some (vr 297), some (vi a1), some (vi a2), some (vi a3)], [vi a2, vr 297], (Wd S L F12 G h))) (by decide) [0, 0] rfl trivial ?_
              refine wp.cl am_m137 rfl am_m135 9 [vr 297, vi a2] [] rfl (Nat.le_of_ble_eq_true rfl) (Nat.le_of_ble_eq_true rfl) rfl (Nat.le_of_ble_eq_true rfl) rfl (Nat.le_of_ble_eq_true rfl) (Nat.le_of_ble_eq_true rfl) ⟨_, _, rfl, Nat.le_of_ble_eq_true rfl, rfl⟩ ?_
              refine wp.mono H ?_
              rintro v w1 ⟨F13, G14, rfl, rfl, H⟩
              show wp 10 137 (49, [some (vr 297), some (vi a1), some (vi a2), some (vi a3)], [], (Wd S L F13 G14 h)) _
              refine pt137 (s' := (58, [some (vr 297), some (vi a1), some (vi a2), some (vi a3)], [vi (F13 298 4), vi a2, vi a1, vr 297], (Wd S L F13 G14 h))) (by decide) [0, 0, 0, 0, 298, 0, 0] rfl ⟨⟨trivial, ⟨Nat.le_of_ble_eq_true rfl, rfl, hh _ _ _ rfl⟩⟩, (ix ⟨Nat.le_of_ble_eq_true rfl, rfl⟩ (by decide : (0 : Int) ≤ 4 ∧ (4 : Int) < 134))⟩ ?_
              refine wp.cl am_m137 rfl am_m136 9 [vr 297, vi a1, vi a2, vi (F13 298 4)] [] rfl (Nat.le_of_ble_eq_true rfl) (Nat.le_of_ble_eq_true rfl) rfl (Nat.le_of_ble_eq_true rfl) rfl (Nat.le_of_ble_eq_true rfl) (Nat.le_of_ble_eq_true rfl) ⟨_, _, rfl, Nat.le_of_ble_eq_true rfl, rfl⟩ ?_
              refine wp.mono H ?_
              rintro v w1 ⟨v15, rfl, rfl, H⟩
              show wp 10 137 (61, [some (vr 297), some (vi a1), some (vi a2), some (vi a3)], [vj v15], (Wd S L F13 G14 h)) _
              refine pt137 (s' := (65, [some (vr 297), some (vi a1), some (vi a2), some (vi a3)], [vi a3, vj 151351200, vj v15], (Wd S L F13 G14 h))) (by decide) [0, 0] rfl trivial ?_
              refine wp.cl am_m137 rfl am_m114 7 [vj v15, vj 151351200, vi a3] [] rfl (Nat.le_of_ble_eq_true rfl) (Nat.le_of_ble_eq_true rfl) rfl (Nat.le_of_ble_eq_true rfl) rfl (Nat.le_of_ble_eq_true rfl) (Nat.le_of_ble_eq_true rfl) trivial ?_
              refine wp.mono H ?_
              rintro v w1 ⟨v16, rfl, rfl, H⟩
              show wp 10 137 (68, [some (vr 297), some (vi a1), some (vi a2), some (vi a3)], [vj v16], (Wd S L F13 G14 h)) _
              exact wp.fin (v := some (vj v16)) (by decide) am_m137 rfl ⟨_, rfl, rfl, rfl⟩ H
set_option maxRecDepth 100000 in
set_option maxHeartbeats 4000000 in
theorem T138_0 {S L : Nat} {F G : Nat → Nat → Int} {h : Nat → Nat → Option Nat} (hh : RfH h) {a1 : Int} {a2 : Int}  {Q : Option V2 → W2 → Prop}
    (H : C121_0  (Wd S L F G h) (fun v w1 => ∃ (F1 : Nat → Nat → Int), v = none ∧ w1 = (Wd S L F1 G h) ∧
  C135_0 a1 (Wd S L F1 G h) (fun v w1 => ∃ (F2 : Nat → Nat → Int) (G3 : Nat → Nat → Int), v = none ∧ w1 = (Wd S L F2 G3 h) ∧
   C138_14 a1 a2 0 1 (Wd S L F2 G3 h) Q))) : C138_0 a1 a2 (Wd S L F G h) Q := by
  refine pt138 (s' := (1, [some (vr 297), some (vi a1), some (vi a2), none, none, none, none, none], [vr 297], (Wd S L F G h))) (by decide) [0] rfl trivial ?_
  refine wp.cl am_m138 rfl am_m121 8 [vr 297] [] rfl (Nat.le_of_ble_eq_true rfl) (Nat.le_of_ble_eq_true rfl) rfl (Nat.le_of_ble_eq_true rfl) rfl (Nat.le_of_ble_eq_true rfl) (Nat.le_of_ble_eq_true rfl) ⟨_, _, rfl, Nat.le_of_ble_eq_true rfl, rfl⟩ ?_
  refine wp.mono H ?_
  rintro v w1 ⟨F1, rfl, rfl, H⟩
  show wp 10 138 (4, [some (vr 297), some (vi a1), some (vi a2), none, none, none, none, none], [], (Wd S L F1 G h)) _
  refine pt138 (s' := (6, [some (vr 297), some (vi a1), some (vi a2), none, none, none, none, none], [vi a1, vr 297], (Wd S L F1 G h))) (by decide) [0, 0] rfl trivial ?_
  refine wp.cl am_m138 rfl am_m135 9 [vr 297, vi a1] [] rfl (Nat.le_of_ble_eq_true rfl) (Nat.le_of_ble_eq_true rfl) rfl (Nat.le_of_ble_eq_true rfl) rfl (Nat.le_of_ble_eq_true rfl) (Nat.le_of_ble_eq_true rfl) ⟨_, _, rfl, Nat.le_of_ble_eq_true rfl, rfl⟩ ?_
  refine wp.mono H ?_
  rintro v w1 ⟨F2, G3, rfl, rfl, H⟩
  show wp 10 138 (9, [some (vr 297), some (vi a1), some (vi a2), none, none, none, none, none], [], (Wd S L F2 G3 h)) _
  refine pt138 (s' := (14, [some (vr 297), some (vi a1), some (vi a2), some (vj 0), none, some (vi 1), none, none], [], (Wd S L F2 G3 h))) (by decide) [0, 0, 0, 0] rfl trivial ?_
  exact wp.weak (a := [some (vr 297), some (vi a1), some (vi a2), some (vj 0), none, some (vi 1), none, none]) ⟨rfl, rfl, rfl, rfl, rfl, trivial⟩ H
set_option maxRecDepth 100000 in
set_option maxHeartbeats 4000000 in
theorem T138_14 {S L : Nat} {F G : Nat → Nat → Int} {h : Nat → Nat → Option Nat} (hh : RfH h) {x1 : Int} {x2 : Int} {x3 : Int} {x5 : Int}  {Q : Option V2 → W2 → Prop}
    (H : C120_0 (F 298 0) (Wd S L F G h) (fun v w1 => ∃ (v1 : Int), v = some (vi v1) ∧ w1 = (Wd S L F G h) ∧
  (R32 x5 ∧
  R32 v1 ∧
  (if v1 ≤ x5 then
   Q (some (vj x3)) (Wd S L F G h)
  else
   C136_0 x5 x1 x2 (Wd S L F G h) (fun v w1 => ∃ (v5 : Int), v = some (vj v5) ∧ w1 = (Wd S L F G h) ∧
    C136_0 (x5 - 1) x1 x2 (Wd S L F G h) (fun v w1 => ∃ (v6 : Int), v = some (vj v6) ∧ w1 = (Wd S L F G h) ∧
     (R64 (v5 - v6) ∧
     (if 0 ≤ (v5 - v6) then
      (R64 x3 ∧
      (if (v5 - v6) ≤ x3 then
       C138_14 x1 x2 x3 (x5 + 1) (Wd S L F G h) Q
      else
       C138_14 x1 x2 (v5 - v6) (x5 + 1) (Wd S L F G h) Q))
     else
      (R64 (-(v5 - v6)) ∧
      R64 x3 ∧
      (if (-(v5 - v6)) ≤ x3 then
       C138_14 x1 x2 x3 (x5 + 1) (Wd S L F G h) Q
      else
       C138_14 x1 x2 (-(v5 - v6)) (x5 + 1) (Wd S L F G h) Q)))))))))) : C138_14 x1 x2 x3 x5 (Wd S L F G h) Q := by
  refine pt138 (s' := (17, [some (vr 297), some (vi x1), some (vi x2), some (vj x3), none, some (vi x5), none, none], [vr 297, vi x5], (Wd S L F G h))) (by decide) [0, 0] rfl trivial ?_
  refine wp.cl am_m138 rfl am_m122 8 [vr 297] [vi x5] rfl (Nat.le_of_ble_eq_true rfl) (Nat.le_of_ble_eq_true rfl) rfl (Nat.le_of_ble_eq_true rfl) rfl (Nat.le_of_ble_eq_true rfl) (Nat.le_of_ble_eq_true rfl) ⟨_, _, rfl, Nat.le_of_ble_eq_true rfl, rfl⟩ ?_
  refine pt122 (s' := (7, [some (vr 297)], [vi (F 298 0), vr 297], (Wd S L F G h))) (by decide) [0, 0, 298, 0, 0] rfl ⟨⟨trivial, ⟨Nat.le_of_ble_eq_true rfl, rfl, hh _ _ _ rfl⟩⟩, (ix ⟨Nat.le_of_ble_eq_true rfl, rfl⟩ (by decide : (0 : Int) ≤ 0 ∧ (0 : Int) < 134))⟩ ?_
  refine wp.cl am_m122 rfl am_m120 7 [vr 297, vi (F 298 0)] [] rfl (Nat.le_of_ble_eq_true rfl) (Nat.le_of_ble_eq_true rfl) rfl (Nat.le_of_ble_eq_true rfl) rfl (Nat.le_of_ble_eq_true rfl) (Nat.le_of_ble_eq_true rfl) ⟨_, _, rfl, Nat.le_of_ble_eq_true rfl, rfl⟩ ?_
  refine wp.mono H ?_
  rintro v w1 ⟨v1, rfl, rfl, H⟩
  show wp 8 122 (10, [some (vr 297)], [vi v1], (Wd S L F G h)) _
  refine wp.fin (v := some (vi v1)) (by decide) am_m122 rfl ⟨_, rfl, Or.inl rfl, rfl⟩ ?_
  show wp 10 138 (20, [some (vr 297), some (vi x1), some (vi x2), some (vj x3), none, some (vi x5), none, none], [vi v1, vi x5], (Wd S L F G h)) _
  obtain ⟨g2, H⟩ := H
  obtain ⟨g3, H⟩ := H
  by_cases c4 : v1 ≤ x5
  · rw [if_pos c4] at H
    refine pt138 (s' := (82, [some (vr 297), some (vi x1), some (vi x2), some (vj x3), none, some (vi x5), none, none], [vj x3], (Wd S L F G h))) (by decide) [1, 0] rfl ⟨trivial, ⟨⟨g2, g3⟩, c4⟩⟩ ?_
    exact wp.fin (v := some (vj x3)) (by decide) am_m138 rfl ⟨_, rfl, rfl, rfl⟩ H
  · rw [if_neg c4] at H
    refine pt138 (s' := (28, [some (vr 297), some (vi x1), some (vi x2), some (vj x3), none, some (vi x5), none, none], [vi x2, vi x1, vi x5, vr 297], (Wd S L F G h))) (by decide) [0, 0, 0, 0, 0] rfl ⟨trivial, ⟨⟨g2, g3⟩, c4⟩⟩ ?_
    refine wp.cl am_m138 rfl am_m136 9 [vr 297, vi x5, vi x1, vi x2] [] rfl (Nat.le_of_ble_eq_true rfl) (Nat.le_of_ble_eq_true rfl) rfl (Nat.le_of_ble_eq_true rfl) rfl (Nat.le_of_ble_eq_true rfl) (Nat.le_of_ble_eq_true rfl) ⟨_, _, rfl, Nat.le_of_ble_eq_true rfl, rfl⟩ ?_
    refine wp.mono H ?_
    rintro v w1 ⟨v5, rfl, rfl, H⟩
    show wp 10 138 (31, [some (vr 297), some (vi x1), some (vi x2), some (vj x3), none, some (vi x5), none, none], [vj v5], (Wd S L F G h)) _
    refine pt138 (s' := (38, [some (vr 297), some (vi x1), some (vi x2), some (vj x3), none, some (vi x5), none, none], [vi x2, vi x1, vi (x5 - 1), vr 297, vj v5], (Wd S L F G h))) (by decide) [0, 0, 0, 0, 0, 0] rfl trivial ?_
    refine wp.cl am_m138 rfl am_m136 9 [vr 297, vi (x5 - 1), vi x1, vi x2] [vj v5] rfl (Nat.le_of_ble_eq_true rfl) (Nat.le_of_ble_eq_true rfl) rfl (Nat.le_of_ble_eq_true rfl) rfl (Nat.le_of_ble_eq_true rfl) (Nat.le_of_ble_eq_true rfl) ⟨_, _, rfl, Nat.le_of_ble_eq_true rfl, rfl⟩ ?_
    refine wp.mono H ?_
    rintro v w1 ⟨v6, rfl, rfl, H⟩
    show wp 10 138 (41, [some (vr 297), some (vi x1), some (vi x2), some (vj x3), none, some (vi x5), none, none], [vj v6, vj v5], (Wd S L F G h)) _
    obtain ⟨g7, H⟩ := H
    refine pt138 (s' := (48, [some (vr 297), some (vi x1), some (vi x2), some (vj x3), none, some (vi x5), some (vj (v5 - v6)), none], [vi (y_cmp (v5 - v6) 0)], (Wd S L F G h))) (by decide) [0, 0, 0, 0, 0] rfl ⟨trivial, ⟨g7, (by decide : R64 0)⟩⟩ ?_
    by_cases c8 : 0 ≤ (v5 - v6)
    · rw [if_pos c8] at H
      obtain ⟨g9, H⟩ := H
      refine pt138 (s' := (65, [some (vr 297), some (vi x1), some (vi x2), some (vj x3), none, some (vi x5), some (vj (v5 - v6)), none], [vi (y_cmp (v5 - v6) x3)], (Wd S L F G h))) (by decide) [1, 0, 0, 0, 0, 0] rfl ⟨⟨trivial, ⟨y_cmp_r32, (y_cmp_ge.mpr c8)⟩⟩, ⟨g7, g9⟩⟩ ?_
      by_cases c10 : (v5 - v6) ≤ x3
      · rw [if_pos c10] at H
        refine pt138 (s' := (14, [some (vr 297), some (vi x1), some (vi x2), some (vj x3), none, some (vi (x5 + 1)), some (vj (v5 - v6)), none], [], (Wd S L F G h))) (by decide) [1, 0, 0, 0, 0] rfl ⟨trivial, ⟨y_cmp_r32, (y_cmp_le.mpr c10)⟩⟩ ?_
        exact wp.weak (a := [some (vr 297), some (vi x1), some (vi x2), some (vj x3), none, some (vi (x5 + 1)), none, none]) ⟨rfl, rfl, rfl, rfl, rfl, trivial⟩ H
      · rw [if_neg c10] at H
        refine pt138 (s' := (14, [some (vr 297), some (vi x1), some (vi x2), some (vj (v5 - v6)), none, some (vi (x5 + 1)), some (vj (v5 - v6)), none], [], (Wd S L F G h))) (by decide) [0, 0, 0, 0, 0, 0] rfl ⟨trivial, ⟨y_cmp_r32, (fun e => c10 (y_cmp_le.mp e))⟩⟩ ?_
        exact wp.weak (a := [some (vr 297), some (vi x1), some (vi x2), some (vj (v5 - v6)), none, some (vi (x5 + 1)), none, none]) ⟨rfl, rfl, rfl, rfl, rfl, trivial⟩ H
    · rw [if_neg c8] at H
      obtain ⟨g11, H⟩ := H
      obtain ⟨g12, H⟩ := H
      refine pt138 (s' := (65, [some (vr 297), some (vi x1), some (vi x2), some (vj x3), none, some (vi x5), some (vj (-(v5 - v6))), none], [vi (y_cmp (-(v5 - v6)) x3)], (Wd S L F G h))) (by decide) [0, 0, 0, 0, 0, 0, 0, 0] rfl ⟨⟨trivial, ⟨y_cmp_r32, (fun e => c8 (y_cmp_ge.mp e))⟩⟩, ⟨g11, g12⟩⟩ ?_
      by_cases c13 : (-(v5 - v6)) ≤ x3
      · rw [if_pos c13] at H
        refine pt138 (s' := (14, [some (vr 297), some (vi x1), some (vi x2), some (vj x3), none, some (vi (x5 + 1)), some (vj (-(v5 - v6))), none], [], (Wd S L F G h))) (by decide) [1, 0, 0, 0, 0] rfl ⟨trivial, ⟨y_cmp_r32, (y_cmp_le.mpr c13)⟩⟩ ?_
        exact wp.weak (a := [some (vr 297), some (vi x1), some (vi x2), some (vj x3), none, some (vi (x5 + 1)), none, none]) ⟨rfl, rfl, rfl, rfl, rfl, trivial⟩ H
      · rw [if_neg c13] at H
        refine pt138 (s' := (14, [some (vr 297), some (vi x1), some (vi x2), some (vj (-(v5 - v6))), none, some (vi (x5 + 1)), some (vj (-(v5 - v6))), none], [], (Wd S L F G h))) (by decide) [0, 0, 0, 0, 0, 0] rfl ⟨trivial, ⟨y_cmp_r32, (fun e => c13 (y_cmp_le.mp e))⟩⟩ ?_
        exact wp.weak (a := [some (vr 297), some (vi x1), some (vi x2), some (vj (-(v5 - v6))), none, some (vi (x5 + 1)), none, none]) ⟨rfl, rfl, rfl, rfl, rfl, trivial⟩ H
set_option maxRecDepth 100000 in
set_option maxHeartbeats 4000000 in
theorem T139_0 {S L : Nat} {F G : Nat → Nat → Int} {h : Nat → Nat → Option Nat} (hh : RfH h) {a1 : Int} {a2 : Int}  {Q : Option V2 → W2 → Prop}
    (H : (R32 a1 ∧
 (if a1 < 0 then
  Q (some (vj (-1))) (Wd S L F G h)
 else
  (if 1 < a1 then
   Q (some (vj (-1))) (Wd S L F G h)
  else
   (R32 a2 ∧
   (if a2 < 0 then
    Q (some (vj (-1))) (Wd S L F G h)
   else
    (if 1 < a2 then
     Q (some (vj (-1))) (Wd S L F G h)
    else
     C138_0 a1 (F 298 4) (Wd S L F G h) (fun v w1 => ∃ (v7 : Int) (F8 : Nat → Nat → Int) (G9 : Nat → Nat → Int), v = some (vj v7) ∧ w1 = (Wd S L F8 G9 h) ∧
      C114_0 v7 151351200 a2 (Wd S L F8 G9 h) (fun v w1 => ∃ (v10 : Int), v = some (vj v10) ∧ w1 = (Wd S L F8 G9 h) ∧
       Q (some (vj v10)) (Wd S L F8 G9 h)))))))))) : C139_0 a1 a2 (Wd S L F G h) Q := by
  obtain ⟨g1, H⟩ := H
  refine pt139 (s' := (4, [some (vr 297), some (vi a1), some (vi a2)], [vj 1, vj 0, vj a1], (Wd S L F G h))) (by decide) [0, 0, 0, 0] rfl ⟨trivial, g1⟩ ?_
  refine wp.cl am_m139 rfl am_m112 6 [vj a1, vj 0, vj 1] [] rfl (Nat.le_of_ble_eq_true rfl) (Nat.le_of_ble_eq_true rfl) rfl (Nat.le_of_ble_eq_true rfl) rfl (Nat.le_of_ble_eq_true rfl) (Nat.le_of_ble_eq_true rfl) trivial ?_
  refine pt112 (s' := (3, [some (vj a1), none, some (vj 0), none, some (vj 1), none], [vi (y_cmp a1 0)], (Wd S L F G h))) (by decide) [0, 0, 0] rfl ⟨trivial, ⟨(r64 g1), (by decide : R64 0)⟩⟩ ?_
  by_cases c2 : a1 < 0
  · rw [if_pos c2] at H
    refine pt112 (s' := (18, [some (vj a1), none, some (vj 0), none, some (vj 1), none], [vi 0], (Wd S L F G h))) (by decide) [1, 0] rfl ⟨trivial, ⟨y_cmp_r32, (y_cmp_lt.mpr c2)⟩⟩ ?_
    refine wp.fin (v := some (vi 0)) (by decide) am_m112 rfl ⟨_, rfl, Or.inr ⟨rfl, Or.inl rfl⟩, rfl⟩ ?_
    show wp 11 139 (7, [some (vr 297), some (vi a1), some (vi a2)], [vi 0], (Wd S L F G h)) _
    refine pt139 (s' := (23, [some (vr 297), some (vi a1), some (vi a2)], [vj (-1)], (Wd S L F G h))) (by decide) [1, 0] rfl ⟨trivial, ⟨(by decide : R32 0), (by decide : (0 : Int) = (0 : Int))⟩⟩ ?_
    exact wp.fin (v := some (vj (-1))) (by decide) am_m139 rfl ⟨_, rfl, rfl, rfl⟩ H
  · rw [if_neg c2] at H
    refine pt112 (s' := (10, [some (vj a1), none, some (vj 0), none, some (vj 1), none], [vi (y_cmp a1 1)], (Wd S L F G h))) (by decide) [0, 0, 0, 0] rfl ⟨⟨trivial, ⟨y_cmp_r32, (fun e => c2 (y_cmp_lt.mp e))⟩⟩, ⟨(r64 g1), (by decide : R64 1)⟩⟩ ?_
    by_cases c3 : 1 < a1
    · rw [if_pos c3] at H
      refine pt112 (s' := (18, [some (vj a1), none, some (vj 0), none, some (vj 1), none], [vi 0], (Wd S L F G h))) (by decide) [1, 0] rfl ⟨trivial, ⟨y_cmp_r32, (y_cmp_gt.mpr c3)⟩⟩ ?_
      refine wp.fin (v := some (vi 0)) (by decide) am_m112 rfl ⟨_, rfl, Or.inr ⟨rfl, Or.inl rfl⟩, rfl⟩ ?_
      show wp 11 139 (7, [some (vr 297), some (vi a1), some (vi a2)], [vi 0], (Wd S L F G h)) _
      refine pt139 (s' := (23, [some (vr 297), some (vi a1), some (vi a2)], [vj (-1)], (Wd S L F G h))) (by decide) [1, 0] rfl ⟨trivial, ⟨(by decide : R32 0), (by decide : (0 : Int) = (0 : Int))⟩⟩ ?_
      exact wp.fin (v := some (vj (-1))) (by decide) am_m139 rfl ⟨_, rfl, rfl, rfl⟩ H
    · rw [if_neg c3] at H
      refine pt112 (s' := (18, [some (vj a1), none, some (vj 0), none, some (vj 1), none], [vi 1], (Wd S L F G h))) (by decide) [0, 0, 0] rfl ⟨trivial, ⟨y_cmp_r32, (fun e => c3 (y_cmp_gt.mp e))⟩⟩ ?_
      refine wp.fin (v := some (vi 1)) (by decide) am_m112 rfl ⟨_, rfl, Or.inr ⟨rfl, Or.inr rfl⟩, rfl⟩ ?_
      show wp 11 139 (7, [some (vr 297), some (vi a1), some (vi a2)], [vi 1], (Wd S L F G h)) _
      obtain ⟨g4, H⟩ := H
      refine pt139 (s' := (14, [some (vr 297), some (vi a1), some (vi a2)], [vj 1, vj 0, vj a2], (Wd S L F G h))) (by decide) [0, 0, 0, 0, 0] rfl ⟨⟨trivial, ⟨(by decide : R32 1), (by decide : ¬ (1 : Int) = (0 : Int))⟩⟩, g4⟩ ?_
      refine wp.cl am_m139 rfl am_m112 6 [vj a2, vj 0, vj 1] [] rfl (Nat.le_of_ble_eq_true rfl) (Nat.le_of_ble_eq_true rfl) rfl (Nat.le_of_ble_eq_true rfl) rfl (Nat.le_of_ble_eq_true rfl) (Nat.le_of_ble_eq_true rfl) trivial ?_
      refine pt112 (s' := (3, [some (vj a2), none, some (vj 0), none, some (vj 1), none], [vi (y_cmp a2 0)], (Wd S L F G h))) (by decide) [0, 0, 0] rfl ⟨trivial, ⟨(r64 g4), (by decide : R64 0)⟩⟩ ?_
      by_cases c5 : a2 < 0
      · rw [if_pos c5] at H
        refine pt112 (s' := (18, [some (vj a2), none, some (vj 0), none, some (vj 1), none], [vi 0], (Wd S L F G h))) (by decide) [1, 0] rfl ⟨trivial, ⟨y_cmp_r32, (y_cmp_lt.mpr c5)⟩⟩ ?_
        refine wp.fin (v := some (vi 0)) (by decide) am_m112 rfl ⟨_, rfl, Or.inr ⟨rfl, Or.inl rfl⟩, rfl⟩ ?_
        show wp 11 139 (17, [some (vr 297), some (vi a1), some (vi a2)], [vi 0], (Wd S L F G h)) _
        refine pt139 (s' := (23, [some (vr 297), some (vi a1), some (vi a2)], [vj (-1)], (Wd S L F G h))) (by decide) [0, 0] rfl ⟨trivial, ⟨(by decide : R32 0), (by decide : (0 : Int) = (0 : Int))⟩⟩ ?_
        exact wp.fin (v := some (vj (-1))) (by decide) am_m139 rfl ⟨_, rfl, rfl, rfl⟩ H
      · rw [if_neg c5] at H
        refine pt112 (s' := (10, [some (vj a2), none, some (vj 0), none, some (vj 1), none], [vi (y_cmp a2 1)], (Wd S L F G h))) (by decide) [0, 0, 0, 0] rfl ⟨⟨trivial, ⟨y_cmp_r32, (fun e => c5 (y_cmp_lt.mp e))⟩⟩, ⟨(r64 g4), (by decide : R64 1)⟩⟩ ?_
        by_cases c6 : 1 < a2
        · rw [if_pos c6] at H
          refine pt112 (s' := (18, [some (vj a2), none, some (vj 0), none, some (vj 1), none], [vi 0], (Wd S L F G h))) (by decide) [1, 0] rfl ⟨trivial, ⟨y_cmp_r32, (y_cmp_gt.mpr c6)⟩⟩ ?_
          refine wp.fin (v := some (vi 0)) (by decide) am_m112 rfl ⟨_, rfl, Or.inr ⟨rfl, Or.inl rfl⟩, rfl⟩ ?_
          show wp 11 139 (17, [some (vr 297), some (vi a1), some (vi a2)], [vi 0], (Wd S L F G h)) _
          refine pt139 (s' := (23, [some (vr 297), some (vi a1), some (vi a2)], [vj (-1)], (Wd S L F G h))) (by decide) [0, 0] rfl ⟨trivial, ⟨(by decide : R32 0), (by decide : (0 : Int) = (0 : Int))⟩⟩ ?_
          exact wp.fin (v := some (vj (-1))) (by decide) am_m139 rfl ⟨_, rfl, rfl, rfl⟩ H
        · rw [if_neg c6] at H
          refine pt112 (s' := (18, [some (vj a2), none, some (vj 0), none, some (vj 1), none], [vi 1], (Wd S L F G h))) (by decide) [0, 0, 0] rfl ⟨trivial, ⟨y_cmp_r32, (fun e => c6 (y_cmp_gt.mp e))⟩⟩ ?_
          refine wp.fin (v := some (vi 1)) (by decide) am_m112 rfl ⟨_, rfl, Or.inr ⟨rfl, Or.inr rfl⟩, rfl⟩ ?_
          show wp 11 139 (17, [some (vr 297), some (vi a1), some (vi a2)], [vi 1], (Wd S L F G h)) _
          refine pt139 (s' := (32, [some (vr 297), some (vi a1), some (vi a2)], [vi (F 298 4), vi a1, vr 297], (Wd S L F G h))) (by decide) [1, 0, 0, 0, 298, 0, 0] rfl ⟨⟨⟨trivial, ⟨(by decide : R32 1), (by decide : ¬ (1 : Int) = (0 : Int))⟩⟩, ⟨Nat.le_of_ble_eq_true rfl, rfl, hh _ _ _ rfl⟩⟩, (ix ⟨Nat.le_of_ble_eq_true rfl, rfl⟩ (by decide : (0 : Int) ≤ 4 ∧ (4 : Int) < 134))⟩ ?_
          refine wp.cl am_m139 rfl am_m138 10 [vr 297, vi a1, vi (F 298 4)] [] rfl (Nat.le_of_ble_eq_true rfl) (Nat.le_of_ble_eq_true rfl) rfl (Nat.le_of_ble_eq_true rfl) rfl (Nat.le_of_ble_eq_true rfl) (Nat.le_of_ble_eq_true rfl) ⟨_, _, rfl, Nat.le_of_ble_eq_true rfl, rfl⟩ ?_
          refine wp.mono H ?_
          rintro v w1 ⟨v7, F8, G9, rfl, rfl, H⟩
          show wp 11 139 (35, [some (vr 297), some (vi a1), some (vi a2)], [vj v7], (Wd S L F8 G9 h)) _
          refine pt139 (s' := (39, [some (vr 297), some (vi a1), some (vi a2)], [vi a2, vj 151351200, vj v7], (Wd S L F8 G9 h))) (by decide) [0, 0] rfl trivial ?_
          refine wp.cl am_m139 rfl am_m114 7 [vj v7, vj 151351200, vi a2] [] rfl (Nat.le_of_ble_eq_true rfl) (Nat.le_of_ble_eq_true rfl) rfl (Nat.le_of_ble_eq_true rfl) rfl (Nat.le_of_ble_eq_true rfl) (Nat.le_of_ble_eq_true rfl) trivial ?_
          refine wp.mono H ?_
          rintro v w1 ⟨v10, rfl, rfl, H⟩
          show wp 11 139 (42, [some (vr 297), some (vi a1), some (vi a2)], [vj v10], (Wd S L F8 G9 h)) _
          exact wp.fin (v := some (vj v10)) (by decide) am_m139 rfl ⟨_, rfl, rfl, rfl⟩ H
set_option maxRecDepth 100000 in
set_option maxHeartbeats 4000000 in
theorem T140_0 {S L : Nat} {F G : Nat → Nat → Int} {h : Nat → Nat → Option Nat} (hh : RfH h) {a1 : Int} {a2 : Int}  {Q : Option V2 → W2 → Prop}
    (H : (R32 a1 ∧
 (if a1 < 0 then
  Q (some (vi (-1))) (Wd S L F G h)
 else
  (if 1 < a1 then
   Q (some (vi (-1))) (Wd S L F G h)
  else
   (R32 a2 ∧
   (if a2 < 0 then
    Q (some (vi (-1))) (Wd S L F G h)
   else
    (if 12 < a2 then
     Q (some (vi (-1))) (Wd S L F G h)
    else
     C140_26 a1 a2 0 (Wd S L F G h) Q))))))) : C140_0 a1 a2 (Wd S L F G h) Q := by
  obtain ⟨g1, H⟩ := H
  refine pt140 (s' := (4, [some (vr 297), some (vi a1), some (vi a2), none], [vj 1, vj 0, vj a1], (Wd S L F G h))) (by decide) [0, 0, 0, 0] rfl ⟨trivial, g1⟩ ?_
  refine wp.cl am_m140 rfl am_m112 6 [vj a1, vj 0, vj 1] [] rfl (Nat.le_of_ble_eq_true rfl) (Nat.le_of_ble_eq_true rfl) rfl (Nat.le_of_ble_eq_true rfl) rfl (Nat.le_of_ble_eq_true rfl) (Nat.le_of_ble_eq_true rfl) trivial ?_
  refine pt112 (s' := (3, [some (vj a1), none, some (vj 0), none, some (vj 1), none], [vi (y_cmp a1 0)], (Wd S L F G h))) (by decide) [0, 0, 0] rfl ⟨trivial, ⟨(r64 g1), (by decide : R64 0)⟩⟩ ?_
  by_cases c2 : a1 < 0
  · rw [if_pos c2] at H
    refine pt112 (s' := (18, [some (vj a1), none, some (vj 0), none, some (vj 1), none], [vi 0], (Wd S L F G h))) (by decide) [1, 0] rfl ⟨trivial, ⟨y_cmp_r32, (y_cmp_lt.mpr c2)⟩⟩ ?_
    refine wp.fin (v := some (vi 0)) (by decide) am_m112 rfl ⟨_, rfl, Or.inr ⟨rfl, Or.inl rfl⟩, rfl⟩ ?_
    show wp 11 140 (7, [some (vr 297), some (vi a1), some (vi a2), none], [vi 0], (Wd S L F G h)) _
    refine pt140 (s' := (23, [some (vr 297), some (vi a1), some (vi a2), none], [vi (-1)], (Wd S L F G h))) (by decide) [1, 0] rfl ⟨trivial, ⟨(by decide : R32 0), (by decide : (0 : Int) = (0 : Int))⟩⟩ ?_
    exact wp.fin (v := some (vi (-1))) (by decide) am_m140 rfl ⟨_, rfl, Or.inl rfl, rfl⟩ H
  · rw [if_neg c2] at H
    refine pt112 (s' := (10, [some (vj a1), none, some (vj 0), none, some (vj 1), none], [vi (y_cmp a1 1)], (Wd S L F G h))) (by decide) [0, 0, 0, 0] rfl ⟨⟨trivial, ⟨y_cmp_r32, (fun e => c2 (y_cmp_lt.mp e))⟩⟩, ⟨(r64 g1), (by decide : R64 1)⟩⟩ ?_
    by_cases c3 : 1 < a1
    · rw [if_pos c3] at H
      refine pt112 (s' := (18, [some (vj a1), none, some (vj 0), none, some (vj 1), none], [vi 0], (Wd S L F G h))) (by decide) [1, 0] rfl ⟨trivial, ⟨y_cmp_r32, (y_cmp_gt.mpr c3)⟩⟩ ?_
      refine wp.fin (v := some (vi 0)) (by decide) am_m112 rfl ⟨_, rfl, Or.inr ⟨rfl, Or.inl rfl⟩, rfl⟩ ?_
      show wp 11 140 (7, [some (vr 297), some (vi a1), some (vi a2), none], [vi 0], (Wd S L F G h)) _
      refine pt140 (s' := (23, [some (vr 297), some (vi a1), some (vi a2), none], [vi (-1)], (Wd S L F G h))) (by decide) [1, 0] rfl ⟨trivial, ⟨(by decide : R32 0), (by decide : (0 : Int) = (0 : Int))⟩⟩ ?_
      exact wp.fin (v := some (vi (-1))) (by decide) am_m140 rfl ⟨_, rfl, Or.inl rfl, rfl⟩ H
    · rw [if_neg c3] at H
      refine pt112 (s' := (18, [some (vj a1), none, some (vj 0), none, some (vj 1), none], [vi 1], (Wd S L F G h))) (by decide) [0, 0, 0] rfl ⟨trivial, ⟨y_cmp_r32, (fun e => c3 (y_cmp_gt.mp e))⟩⟩ ?_
      refine wp.fin (v := some (vi 1)) (by decide) am_m112 rfl ⟨_, rfl, Or.inr ⟨rfl, Or.inr rfl⟩, rfl⟩ ?_
      show wp 11 140 (7, [some (vr 297), some (vi a1), some (vi a2), none], [vi 1], (Wd S L F G h)) _
      obtain ⟨g4, H⟩ := H
      refine pt140 (s' := (16, [some (vr 297), some (vi a1), some (vi a2), none], [vj 12, vj 0, vj a2], (Wd S L F G h))) (by decide) [0, 0, 0, 0, 0] rfl ⟨⟨trivial, ⟨(by decide : R32 1), (by decide : ¬ (1 : Int) = (0 : Int))⟩⟩, g4⟩ ?_
      refine wp.cl am_m140 rfl am_m112 6 [vj a2, vj 0, vj 12] [] rfl (Nat.le_of_ble_eq_true rfl) (Nat.le_of_ble_eq_true rfl) rfl (Nat.le_of_ble_eq_true rfl) rfl (Nat.le_of_ble_eq_true rfl) (Nat.le_of_ble_eq_true rfl) trivial ?_
      refine pt112 (s' := (3, [some (vj a2), none, some (vj 0), none, some (vj 12), none], [vi (y_cmp a2 0)], (Wd S L F G h))) (by decide) [0, 0, 0] rfl ⟨trivial, ⟨(r64 g4), (by decide : R64 0)⟩⟩ ?_
      by_cases c5 : a2 < 0
      · rw [if_pos c5] at H
        refine pt112 (s' := (18, [some (vj a2), none, some (vj 0), none, some (vj 12), none], [vi 0], (Wd S L F G h))) (by decide) [1, 0] rfl ⟨trivial, ⟨y_cmp_r32, (y_cmp_lt.mpr c5)⟩⟩ ?_
        refine wp.fin (v := some (vi 0)) (by decide) am_m112 rfl ⟨_, rfl, Or.inr ⟨rfl, Or.inl rfl⟩, rfl⟩ ?_
        show wp 11 140 (19, [some (vr 297), some (vi a1), some (vi a2), none], [vi 0], (Wd S L F G h)) _
        refine pt140 (s' := (23, [some (vr 297), some (vi a1), some (vi a2), none], [vi (-1)], (Wd S L F G h))) (by decide) [0, 0] rfl ⟨trivial, ⟨(by decide : R32 0), (by decide : (0 : Int) = (0 : Int))⟩⟩ ?_
        exact wp.fin (v := some (vi (-1))) (by decide) am_m140 rfl ⟨_, rfl, Or.inl rfl, rfl⟩ H
      · rw [if_neg c5] at H
        refine pt112 (s' := (10, [some (vj a2), none, some (vj 0), none, some (vj 12), none], [vi (y_cmp a2 12)], (Wd S L F G h))) (by decide) [0, 0, 0, 0] rfl ⟨⟨trivial, ⟨y_cmp_r32, (fun e => c5 (y_cmp_lt.mp e))⟩⟩, ⟨(r64 g4), (by decide : R64 12)⟩⟩ ?_
        by_cases c6 : 12 < a2
        · rw [if_pos c6] at H
          refine pt112 (s' := (18, [some (vj a2), none, some (vj 0), none, some (vj 12), none], [vi 0], (Wd S L F G h))) (by decide) [1, 0] rfl ⟨trivial, ⟨y_cmp_r32, (y_cmp_gt.mpr c6)⟩⟩ ?_
          refine wp.fin (v := some (vi 0)) (by decide) am_m112 rfl ⟨_, rfl, Or.inr ⟨rfl, Or.inl rfl⟩, rfl⟩ ?_
          show wp 11 140 (19, [some (vr 297), some (vi a1), some (vi a2), none], [vi 0], (Wd S L F G h)) _
          refine pt140 (s' := (23, [some (vr 297), some (vi a1), some (vi a2), none], [vi (-1)], (Wd S L F G h))) (by decide) [0, 0] rfl ⟨trivial, ⟨(by decide : R32 0), (by decide : (0 : Int) = (0 : Int))⟩⟩ ?_
          exact wp.fin (v := some (vi (-1))) (by decide) am_m140 rfl ⟨_, rfl, Or.inl rfl, rfl⟩ H
        · rw [if_neg c6] at H
          refine pt112 (s' := (18, [some (vj a2), none, some (vj 0), none, some (vj 12), none], [vi 1], (Wd S L F G h))) (by decide) [0, 0, 0] rfl ⟨trivial, ⟨y_cmp_r32, (fun e => c6 (y_cmp_gt.mp e))⟩⟩ ?_
          refine wp.fin (v := some (vi 1)) (by decide) am_m112 rfl ⟨_, rfl, Or.inr ⟨rfl, Or.inr rfl⟩, rfl⟩ ?_
          show wp 11 140 (19, [some (vr 297), some (vi a1), some (vi a2), none], [vi 1], (Wd S L F G h)) _
          refine pt140 (s' := (26, [some (vr 297), some (vi a1), some (vi a2), some (vi 0)], [], (Wd S L F G h))) (by decide) [1, 0, 0] rfl ⟨trivial, ⟨(by decide : R32 1), (by decide : ¬ (1 : Int) = (0 : Int))⟩⟩ ?_
          exact wp.weak (a := [some (vr 297), some (vi a1), some (vi a2), some (vi 0)]) ⟨rfl, rfl, rfl, rfl, trivial⟩ H
set_option maxRecDepth 100000 in
set_option maxHeartbeats 4000000 in
theorem T140_26 {S L : Nat} {F G : Nat → Nat → Int} {h : Nat → Nat → Option Nat} (hh : RfH h) {x1 : Int} {x2 : Int} {x3 : Int}  {Q : Option V2 → W2 → Prop}
    (H : (R32 x3 ∧
 (if 4 ≤ x3 then
  Q (some (vi (-4))) (Wd S L F G h)
 else
  C138_0 x1 x3 (Wd S L F G h) (fun v w1 => ∃ (v3 : Int) (F4 : Nat → Nat → Int) (G5 : Nat → Nat → Int), v = some (vj v3) ∧ w1 = (Wd S L F4 G5 h) ∧
   (R32 x2 ∧
   R64 v3 ∧
   R64 ((x2 * 360360) * 420) ∧
   (if ((x2 * 360360) * 420) < v3 then
    C140_26 x1 x2 (x3 + 1) (Wd S L F4 G5 h) Q
   else
    Q (some (vi x3)) (Wd S L F4 G5 h))))))) : C140_26 x1 x2 x3 (Wd S L F G h) Q := by
  obtain ⟨g1, H⟩ := H
  refine pt140 (s' := (28, [some (vr 297), some (vi x1), some (vi x2), some (vi x3)], [vi 4, vi x3], (Wd S L F G h))) (by decide) [0, 0] rfl trivial ?_
  by_cases c2 : 4 ≤ x3
  · rw [if_pos c2] at H
    refine pt140 (s' := (61, [some (vr 297), some (vi x1), some (vi x2), some (vi x3)], [vi (-4)], (Wd S L F G h))) (by decide) [1, 0] rfl ⟨trivial, ⟨⟨g1, (by decide : R32 4)⟩, c2⟩⟩ ?_
    exact wp.fin (v := some (vi (-4))) (by decide) am_m140 rfl ⟨_, rfl, Or.inl rfl, rfl⟩ H
  · rw [if_neg c2] at H
    refine pt140 (s' := (34, [some (vr 297), some (vi x1), some (vi x2), some (vi x3)], [vi x3, vi x1, vr 297], (Wd S L F G h))) (by decide) [0, 0, 0, 0] rfl ⟨trivial, ⟨⟨g1, (by decide : R32 4)⟩, c2⟩⟩ ?_
    refine wp.cl am_m140 rfl am_m138 10 [vr 297, vi x1, vi x3] [] rfl (Nat.le_of_ble_eq_true rfl) (Nat.le_of_ble_eq_true rfl) rfl (Nat.le_of_ble_eq_true rfl) rfl (Nat.le_of_ble_eq_true rfl) (Nat.le_of_ble_eq_true rfl) ⟨_, _, rfl, Nat.le_of_ble_eq_true rfl, rfl⟩ ?_
    refine wp.mono H ?_
    rintro v w1 ⟨v3, F4, G5, rfl, rfl, H⟩
    show wp 11 140 (37, [some (vr 297), some (vi x1), some (vi x2), some (vi x3)], [vj v3], (Wd S L F4 G5 h)) _
    obtain ⟨g6, H⟩ := H
    obtain ⟨g7, H⟩ := H
    obtain ⟨g8, H⟩ := H
    refine pt140 (s' := (48, [some (vr 297), some (vi x1), some (vi x2), some (vi x3)], [vi (y_cmp v3 ((x2 * 360360) * 420))], (Wd S L F4 G5 h))) (by decide) [0, 0, 0, 0, 0, 0, 0] rfl ⟨⟨trivial, g6⟩, ⟨g7, g8⟩⟩ ?_
    by_cases c9 : ((x2 * 360360) * 420) < v3
    · rw [if_pos c9] at H
      refine pt140 (s' := (26, [some (vr 297), some (vi x1), some (vi x2), some (vi (x3 + 1))], [], (Wd S L F4 G5 h))) (by decide) [1, 0, 0] rfl ⟨trivial, ⟨y_cmp_r32, (y_cmp_gt.mpr c9)⟩⟩ ?_
      exact wp.weak (a := [some (vr 297), some (vi x1), some (vi x2), some (vi (x3 + 1))]) ⟨rfl, rfl, rfl, rfl, trivial⟩ H
    · rw [if_neg c9] at H
      refine pt140 (s' := (52, [some (vr 297), some (vi x1), some (vi x2), some (vi x3)], [vi x3], (Wd S L F4 G5 h))) (by decide) [0, 0] rfl ⟨trivial, ⟨y_cmp_r32, (fun e => c9 (y_cmp_gt.mp e))⟩⟩ ?_
      exact wp.fin (v := some (vi x3)) (by decide) am_m140 rfl ⟨_, rfl, Or.inl rfl, rfl⟩ H
set_option maxRecDepth 100000 in
set_option maxHeartbeats 4000000 in
theorem T141_0 {S L : Nat} {F G : Nat → Nat → Int} {h : Nat → Nat → Option Nat} (hh : RfH h) {a1 : Int} {a2 : Int}  {Q : Option V2 → W2 → Prop}
    (H : (R32 a1 ∧
 R32 ((F 298 0) - 1) ∧
 (if a1 < 0 then
  Q (some (vi (-1))) (Wd S L F G h)
 else
  (if ((F 298 0) - 1) < a1 then
   Q (some (vi (-1))) (Wd S L F G h)
  else
   (R32 a2 ∧
   (if a2 < 0 then
    Q (some (vi (-1))) (Wd S L F G h)
   else
    (if 1 < a2 then
     Q (some (vi (-1))) (Wd S L F G h)
    else
     C120_0 a1 (Wd S L F G h) (fun v w1 => ∃ (v8 : Int), v = some (vi v8) ∧ w1 = (Wd S L F G h) ∧
      C118_0 a1 (Wd S L F G h) (fun v w1 => ∃ (v9 : Int), v = some (vi v9) ∧ w1 = (Wd S L F G h) ∧
       (R32 (((F 298 2) * v8) - ((F 298 3) * v9)) ∧
       (if 0 ≤ (((F 298 2) * v8) - ((F 298 3) * v9)) then
        (R32 (F 298 2) ∧
        C114_0 (((F 298 2) * v8) - ((F 298 3) * v9)) (F 298 2) a2 (Wd S L F G h) (fun v w1 => ∃ (v13 : Int), v = some (vj v13) ∧ w1 = (Wd S L F G h) ∧
         Q (some (vi v13)) (Wd S L F G h)))
       else
        (R32 (-(((F 298 2) * v8) - ((F 298 3) * v9))) ∧
        R32 (F 298 2) ∧
        C114_0 (-(((F 298 2) * v8) - ((F 298 3) * v9))) (F 298 2) a2 (Wd S L F G h) (fun v w1 => ∃ (v16 : Int), v = some (vj v16) ∧ w1 = (Wd S L F G h) ∧
         Q (some (vi v16)) (Wd S L F G h)))))))))))))) : C141_0 a1 a2 (Wd S L F G h) Q := by
  refine pt141 (s' := (2, [some (vr 297), some (vi a1), some (vi a2), none], [vi a1, vr 297], (Wd S L F G h))) (by decide) [0, 0] rfl trivial ?_
  refine wp.cl am_m141 rfl am_m115 7 [vr 297, vi a1] [] rfl (Nat.le_of_ble_eq_true rfl) (Nat.le_of_ble_eq_true rfl) rfl (Nat.le_of_ble_eq_true rfl) rfl (Nat.le_of_ble_eq_true rfl) (Nat.le_of_ble_eq_true rfl) ⟨_, _, rfl, Nat.le_of_ble_eq_true rfl, rfl⟩ ?_
  obtain ⟨g1, H⟩ := H
  obtain ⟨g2, H⟩ := H
  refine pt115 (s' := (12, [some (vr 297), some (vi a1)], [vj ((F 298 0) - 1), vj 0, vj a1], (Wd S L F G h))) (by decide) [0, 0, 0, 0, 298, 0, 0, 0, 0, 0] rfl ⟨⟨⟨⟨trivial, g1⟩, ⟨Nat.le_of_ble_eq_true rfl, rfl, hh _ _ _ rfl⟩⟩, (ix ⟨Nat.le_of_ble_eq_true rfl, rfl⟩ (by decide : (0 : Int) ≤ 0 ∧ (0 : Int) < 134))⟩, g2⟩ ?_
  refine wp.cl am_m115 rfl am_m112 6 [vj a1, vj 0, vj ((F 298 0) - 1)] [] rfl (Nat.le_of_ble_eq_true rfl) (Nat.le_of_ble_eq_true rfl) rfl (Nat.le_of_ble_eq_true rfl) rfl (Nat.le_of_ble_eq_true rfl) (Nat.le_of_ble_eq_true rfl) trivial ?_
  refine pt112 (s' := (3, [some (vj a1), none, some (vj 0), none, some (vj ((F 298 0) - 1)), none], [vi (y_cmp a1 0)], (Wd S L F G h))) (by decide) [0, 0, 0] rfl ⟨trivial, ⟨(r64 g1), (by decide : R64 0)⟩⟩ ?_
  by_cases c3 : a1 < 0
  · rw [if_pos c3] at H
    refine pt112 (s' := (18, [some (vj a1), none, some (vj 0), none, some (vj ((F 298 0) - 1)), none], [vi 0], (Wd S L F G h))) (by decide) [1, 0] rfl ⟨trivial, ⟨y_cmp_r32, (y_cmp_lt.mpr c3)⟩⟩ ?_
    refine wp.fin (v := some (vi 0)) (by decide) am_m112 rfl ⟨_, rfl, Or.inr ⟨rfl, Or.inl rfl⟩, rfl⟩ ?_
    show wp 7 115 (15, [some (vr 297), some (vi a1)], [vi 0], (Wd S L F G h)) _
    refine wp.fin (v := some (vi 0)) (by decide) am_m115 rfl ⟨_, rfl, Or.inr ⟨rfl, Or.inl rfl⟩, rfl⟩ ?_
    show wp 8 141 (5, [some (vr 297), some (vi a1), some (vi a2), none], [vi 0], (Wd S L F G h)) _
    refine pt141 (s' := (19, [some (vr 297), some (vi a1), some (vi a2), none], [vi (-1)], (Wd S L F G h))) (by decide) [1, 0] rfl ⟨trivial, ⟨(by decide : R32 0), (by decide : (0 : Int) = (0 : Int))⟩⟩ ?_
    exact wp.fin (v := some (vi (-1))) (by decide) am_m141 rfl ⟨_, rfl, Or.inl rfl, rfl⟩ H
  · rw [if_neg c3] at H
    refine pt112 (s' := (10, [some (vj a1), none, some (vj 0), none, some (vj ((F 298 0) - 1)), none], [vi (y_cmp a1 ((F 298 0) - 1))], (Wd S L F G h))) (by decide) [0, 0, 0, 0] rfl ⟨⟨trivial, ⟨y_cmp_r32, (fun e => c3 (y_cmp_lt.mp e))⟩⟩, ⟨(r64 g1), (r64 g2)⟩⟩ ?_
    by_cases c4 : ((F 298 0) - 1) < a1
    · rw [if_pos c4] at H
      refine pt112 (s' := (18, [some (vj a1), none, some (vj 0), none, some (vj ((F 298 0) - 1)), none], [vi 0], (Wd S L F G h))) (by decide) [1, 0] rfl ⟨trivial, ⟨y_cmp_r32, (y_cmp_gt.mpr c4)⟩⟩ ?_
      refine wp.fin (v := some (vi 0)) (by decide) am_m112 rfl ⟨_, rfl, Or.inr ⟨rfl, Or.inl rfl⟩, rfl⟩ ?_
      show wp 7 115 (15, [some (vr 297), some (vi a1)], [vi 0], (Wd S L F G h)) _
      refine wp.fin (v := some (vi 0)) (by decide) am_m115 rfl ⟨_, rfl, Or.inr ⟨rfl, Or.inl rfl⟩, rfl⟩ ?_
      show wp 8 141 (5, [some (vr 297), some (vi a1), some (vi a2), none], [vi 0], (Wd S L F G h)) _
      refine pt141 (s' := (19, [some (vr 297), some (vi a1), some (vi a2), none], [vi (-1)], (Wd S L F G h))) (by decide) [1, 0] rfl ⟨trivial, ⟨(by decide : R32 0), (by decide : (0 : Int) = (0 : Int))⟩⟩ ?_
      exact wp.fin (v := some (vi (-1))) (by decide) am_m141 rfl ⟨_, rfl, Or.inl rfl, rfl⟩ H
    · rw [if_neg c4] at H
      refine pt112 (s' := (18, [some (vj a1), none, some (vj 0), none, some (vj ((F 298 0) - 1)), none], [vi 1], (Wd S L F G h))) (by decide) [0, 0, 0] rfl ⟨trivial, ⟨y_cmp_r32, (fun e => c4 (y_cmp_gt.mp e))⟩⟩ ?_
      refine wp.fin (v := some (vi 1)) (by decide) am_m112 rfl ⟨_, rfl, Or.inr ⟨rfl, Or.inr rfl⟩, rfl⟩ ?_
      show wp 7 115 (15, [some (vr 297), some (vi a1)], [vi 1], (Wd S L F G h)) _
      refine wp.fin (v := some (vi 1)) (by decide) am_m115 rfl ⟨_, rfl, Or.inr ⟨rfl, Or.inr rfl⟩, rfl⟩ ?_
      show wp 8 141 (5, [some (vr 297), some (vi a1), some (vi a2), none], [vi 1], (Wd S L F G h)) _
      obtain ⟨g5, H⟩ := H
      refine pt141 (s' := (12, [some (vr 297), some (vi a1), some (vi a2), none], [vj 1, vj 0, vj a2], (Wd S L F G h))) (by decide) [0, 0, 0, 0, 0] rfl ⟨⟨trivial, ⟨(by decide : R32 1), (by decide : ¬ (1 : Int) = (0 : Int))⟩⟩, g5⟩ ?_
      refine wp.cl am_m141 rfl am_m112 6 [vj a2, vj 0, vj 1] [] rfl (Nat.le_of_ble_eq_true rfl) (Nat.le_of_ble_eq_true rfl) rfl (Nat.le_of_ble_eq_true rfl) rfl (Nat.le_of_ble_eq_true rfl) (Nat.le_of_ble_eq_true rfl) trivial ?_
      refine pt112 (s' := (3, [some (vj a2), none, some (vj 0), none, some (vj 1), none], [vi (y_cmp a2 0)], (Wd S L F G h))) (by decide) [0, 0, 0] rfl ⟨trivial, ⟨(r64 g5), (by decide : R64 0)⟩⟩ ?_
      by_cases c6 : a2 < 0
      · rw [if_pos c6] at H
        refine pt112 (s' := (18, [some (vj a2), none, some (vj 0), none, some (vj 1), none], [vi 0], (Wd S L F G h))) (by decide) [1, 0] rfl ⟨trivial, ⟨y_cmp_r32, (y_cmp_lt.mpr c6)⟩⟩ ?_
        refine wp.fin (v := some (vi 0)) (by decide) am_m112 rfl ⟨_, rfl, Or.inr ⟨rfl, Or.inl rfl⟩, rfl⟩ ?_
        show wp 8 141 (15, [some (vr 297), some (vi a1), some (vi a2), none], [vi 0], (Wd S L F G h)) _
        refine pt141 (s' := (19, [some (vr 297), some (vi a1), some (vi a2), none], [vi (-1)], (Wd S L F G h))) (by decide) [0, 0] rfl ⟨trivial, ⟨(by decide : R32 0), (by decide : (0 : Int) = (0 : Int))⟩⟩ ?_
        exact wp.fin (v := some (vi (-1))) (by decide) am_m141 rfl ⟨_, rfl, Or.inl rfl, rfl⟩ H
      · rw [if_neg c6] at H
        refine pt112 (s' := (10, [some (vj a2), none, some (vj 0), none, some (vj 1), none], [vi (y_cmp a2 1)], (Wd S L F G h))) (by decide) [0, 0, 0, 0] rfl ⟨⟨trivial, ⟨y_cmp_r32, (fun e => c6 (y_cmp_lt.mp e))⟩⟩, ⟨(r64 g5), (by decide : R64 1)⟩⟩ ?_
        by_cases c7 : 1 < a2
        · rw [if_pos c7] at H
          refine pt112 (s' := (18, [some (vj a2), none, some (vj 0), none, some (vj 1), none], [vi 0], (Wd S L F G h))) (by decide) [1, 0] rfl ⟨trivial, ⟨y_cmp_r32, (y_cmp_gt.mpr c7)⟩⟩ ?_
          refine wp.fin (v := some (vi 0)) (by decide) am_m112 rfl ⟨_, rfl, Or.inr ⟨rfl, Or.inl rfl⟩, rfl⟩ ?_
          show wp 8 141 (15, [some (vr 297), some (vi a1), some (vi a2), none], [vi 0], (Wd S L F G h)) _
          refine pt141 (s' := (19, [some (vr 297), some (vi a1), some (vi a2), none], [vi (-1)], (Wd S L F G h))) (by decide) [0, 0] rfl ⟨trivial, ⟨(by decide : R32 0), (by decide : (0 : Int) = (0 : Int))⟩⟩ ?_
          exact wp.fin (v := some (vi (-1))) (by decide) am_m141 rfl ⟨_, rfl, Or.inl rfl, rfl⟩ H
        · rw [if_neg c7] at H
          refine pt112 (s' := (18, [some (vj a2), none, some (vj 0), none, some (vj 1), none], [vi 1], (Wd S L F G h))) (by decide) [0, 0, 0] rfl ⟨trivial, ⟨y_cmp_r32, (fun e => c7 (y_cmp_gt.mp e))⟩⟩ ?_
          refine wp.fin (v := some (vi 1)) (by decide) am_m112 rfl ⟨_, rfl, Or.inr ⟨rfl, Or.inr rfl⟩, rfl⟩ ?_
          show wp 8 141 (15, [some (vr 297), some (vi a1), some (vi a2), none], [vi 1], (Wd S L F G h)) _
          refine pt141 (s' := (28, [some (vr 297), some (vi a1), some (vi a2), none], [vi a1, vr 297, vi (F 298 2)], (Wd S L F G h))) (by decide) [1, 0, 298, 0, 0, 0, 0] rfl ⟨⟨⟨trivial, ⟨(by decide : R32 1), (by decide : ¬ (1 : Int) = (0 : Int))⟩⟩, ⟨Nat.le_of_ble_eq_true rfl, rfl, hh _ _ _ rfl⟩⟩, (ix ⟨Nat.le_of_ble_eq_true rfl, rfl⟩ (by decide : (0 : Int) ≤ 2 ∧ (2 : Int) < 134))⟩ ?_
          refine wp.cl am_m141 rfl am_m120 7 [vr 297, vi a1] [vi (F 298 2)] rfl (Nat.le_of_ble_eq_true rfl) (Nat.le_of_ble_eq_true rfl) rfl (Nat.le_of_ble_eq_true rfl) rfl (Nat.le_of_ble_eq_true rfl) (Nat.le_of_ble_eq_true rfl) ⟨_, _, rfl, Nat.le_of_ble_eq_true rfl, rfl⟩ ?_
          refine wp.mono H ?_
          rintro v w1 ⟨v8, rfl, rfl, H⟩
          show wp 8 141 (31, [some (vr 297), some (vi a1), some (vi a2), none], [vi v8, vi (F 298 2)], (Wd S L F G h)) _
          refine pt141 (s' := (40, [some (vr 297), some (vi a1), some (vi a2), none], [vi a1, vr 297, vi (F 298 3), vi ((F 298 2) * v8)], (Wd S L F G h))) (by decide) [0, 0, 298, 0, 0, 0, 0] rfl ⟨⟨trivial, ⟨Nat.le_of_ble_eq_true rfl, rfl, hh _ _ _ rfl⟩⟩, (ix ⟨Nat.le_of_ble_eq_true rfl, rfl⟩ (by decide : (0 : Int) ≤ 3 ∧ (3 : Int) < 134))⟩ ?_
          refine wp.cl am_m141 rfl am_m118 6 [vr 297, vi a1] [vi (F 298 3), vi ((F 298 2) * v8)] rfl (Nat.le_of_ble_eq_true rfl) (Nat.le_of_ble_eq_true rfl) rfl (Nat.le_of_ble_eq_true rfl) rfl (Nat.le_of_ble_eq_true rfl) (Nat.le_of_ble_eq_true rfl) ⟨_, _, rfl, Nat.le_of_ble_eq_true rfl, rfl⟩ ?_
          refine wp.mono H ?_
          rintro v w1 ⟨v9, rfl, rfl, H⟩
          show wp 8 141 (43, [some (vr 297), some (vi a1), some (vi a2), none], [vi v9, vi (F 298 3), vi ((F 298 2) * v8)], (Wd S L F G h)) _
          obtain ⟨g10, H⟩ := H
          refine pt141 (s' := (47, [some (vr 297), some (vi a1), some (vi a2), some (vi (((F 298 2) * v8) - ((F 298 3) * v9)))], [vi (((F 298 2) * v8) - ((F 298 3) * v9))], (Wd S L F G h))) (by decide) [0, 0, 0, 0] rfl trivial ?_
          by_cases c11 : 0 ≤ (((F 298 2) * v8) - ((F 298 3) * v9))
          · rw [if_pos c11] at H
            obtain ⟨g12, H⟩ := H
            refine pt141 (s' := (66, [some (vr 297), some (vi a1), some (vi a2), some (vi (((F 298 2) * v8) - ((F 298 3) * v9)))], [vi a2, vj (F 298 2), vj (((F 298 2) * v8) - ((F 298 3) * v9))], (Wd S L F G h))) (by decide) [1, 0, 0, 0, 298, 0, 0, 0, 0] rfl ⟨⟨⟨⟨⟨trivial, ⟨g10, c11⟩⟩, g10⟩, ⟨Nat.le_of_ble_eq_true rfl, rfl, hh _ _ _ rfl⟩⟩, (ix ⟨Nat.le_of_ble_eq_true rfl, rfl⟩ (by decide : (0 : Int) ≤ 2 ∧ (2 : Int) < 134))⟩, g12⟩ ?_
            refine wp.cl am_m141 rfl am_m114 7 [vj (((F 298 2) * v8) - ((F 298 3) * v9)), vj (F 298 2), vi a2] [] rfl (Nat.le_of_ble_eq_true rfl) (Nat.le_of_ble_eq_true rfl) rfl (Nat.le_of_ble_eq_true rfl) rfl (Nat.le_of_ble_eq_true rfl) (Nat.le_of_ble_eq_true rfl) trivial ?_
            refine wp.mono H ?_
            rintro v w1 ⟨v13, rfl, rfl, H⟩
            show wp 8 141 (69, [some (vr 297), some (vi a1), some (vi a2), some (vi (((F 298 2) * v8) - ((F 298 3) * v9)))], [vj v13], (Wd S L F G h)) _
            refine pt141 (s' := (70, [some (vr 297), some (vi a1), some (vi a2), some (vi (((F 298 2) * v8) - ((F 298 3) * v9)))], [vi v13], (Wd S L F G h))) (by decide) [0] rfl trivial ?_
            exact wp.fin (v := some (vi v13)) (by decide) am_m141 rfl ⟨_, rfl, Or.inl rfl, rfl⟩ H
          · rw [if_neg c11] at H
            obtain ⟨g14, H⟩ := H
            obtain ⟨g15, H⟩ := H
            refine pt141 (s' := (66, [some (vr 297), some (vi a1), some (vi a2), some (vi (((F 298 2) * v8) - ((F 298 3) * v9)))], [vi a2, vj (F 298 2), vj (-(((F 298 2) * v8) - ((F 298 3) * v9)))], (Wd S L F G h))) (by decide) [0, 0, 0, 0, 0, 0, 298, 0, 0, 0, 0] rfl ⟨⟨⟨⟨⟨trivial, ⟨g10, c11⟩⟩, g14⟩, ⟨Nat.le_of_ble_eq_true rfl, rfl, hh _ _ _ rfl⟩⟩, (ix ⟨Nat.le_of_ble_eq_true rfl, rfl⟩ (by decide : (0 : Int) ≤ 2 ∧ (2 : Int) < 134))⟩, g15⟩ ?_
            refine wp.cl am_m141 rfl am_m114 7 [vj (-(((F 298 2) * v8) - ((F 298 3) * v9))), vj (F 298 2), vi a2] [] rfl (Nat.le_of_ble_eq_true rfl) (Nat.le_of_ble_eq_true rfl) rfl (Nat.le_of_ble_eq_true rfl) rfl (Nat.le_of_ble_eq_true rfl) (Nat.le_of_ble_eq_true rfl) trivial ?_
            refine wp.mono H ?_
            rintro v w1 ⟨v16, rfl, rfl, H⟩
            show wp 8 141 (69, [some (vr 297), some (vi a1), some (vi a2), some (vi (((F 298 2) * v8) - ((F 298 3) * v9)))], [vj v16], (Wd S L F G h)) _
            refine pt141 (s' := (70, [some (vr 297), some (vi a1), some (vi a2), some (vi (((F 298 2) * v8) - ((F 298 3) * v9)))], [vi v16], (Wd S L F G h))) (by decide) [0] rfl trivial ?_
            exact wp.fin (v := some (vi v16)) (by decide) am_m141 rfl ⟨_, rfl, Or.inl rfl, rfl⟩ H
set_option maxRecDepth 100000 in
set_option maxHeartbeats 4000000 in
theorem T147_0 {S L : Nat} {F G : Nat → Nat → Int} {h : Nat → Nat → Option Nat} (hh : RfH h) {a1 : Int}  {Q : Option V2 → W2 → Prop}
    (H : C147_4 a1 0 0 (Wd S L F G h) Q) : C147_0 a1 (Wd S L F G h) Q := by
  refine pt147 (s' := (4, [some (vr 297), some (vi a1), some (vi 0), some (vi 0)], [], (Wd S L F G h))) (by decide) [0, 0, 0, 0] rfl trivial ?_
  exact wp.weak (a := [some (vr 297), some (vi a1), some (vi 0), some (vi 0)]) ⟨rfl, rfl, rfl, rfl, trivial⟩ H
set_option maxRecDepth 100000 in
set_option maxHeartbeats 4000000 in
theorem T147_4 {S L : Nat} {F G : Nat → Nat → Int} {h : Nat → Nat → Option Nat} (hh : RfH h) {x1 : Int} {x2 : Int} {x3 : Int}  {Q : Option V2 → W2 → Prop}
    (H : ((0 ≤ ((70 + (8 * x1)) + 1) ∧ ((70 + (8 * x1)) + 1) < 134) ∧
 R32 x3 ∧
 R32 (F 298 ((70 + (8 * x1)) + 1).toNat) ∧
 (if (F 298 ((70 + (8 * x1)) + 1).toNat) ≤ x3 then
  Q (some (vi x2)) (Wd S L F G h)
 else
  ((0 ≤ (((70 + (8 * x1)) + 2) + x3) ∧ (((70 + (8 * x1)) + 2) + x3) < 134) ∧
  (0 ≤ (22 + (F 298 (((70 + (8 * x1)) + 2) + x3).toNat)) ∧ (22 + (F 298 (((70 + (8 * x1)) + 2) + x3).toNat)) < 134) ∧
  ((0 : Int) ≤ x2 ∧ x2 ≤ 2147483647) ∧
  R32 (x2 % 9) ∧
  R32 ((F 298 (22 + (F 298 (((70 + (8 * x1)) + 2) + x3).toNat)).toNat) + 1) ∧
  (if (x2 % 9) = ((F 298 (22 + (F 298 (((70 + (8 * x1)) + 2) + x3).toNat)).toNat) + 1) then
   C147_4 x1 x2 (x3 + 1) (Wd S L F G h) Q
  else
   C147_4 x1 (((9 * x2) + (F 298 (22 + (F 298 (((70 + (8 * x1)) + 2) + x3).toNat)).toNat)) + 1) (x3 + 1) (Wd S L F G h) Q))))) : C147_4 x1 x2 x3 (Wd S L F G h) Q := by
  refine pt147 (s' := (7, [some (vr 297), some (vi x1), some (vi x2), some (vi x3)], [vi x1, vr 297, vi x3], (Wd S L F G h))) (by decide) [0, 0, 0] rfl trivial ?_
  refine wp.cl am_m147 rfl am_m144 6 [vr 297, vi x1] [vi x3] rfl (Nat.le_of_ble_eq_true rfl) (Nat.le_of_ble_eq_true rfl) rfl (Nat.le_of_ble_eq_true rfl) rfl (Nat.le_of_ble_eq_true rfl) (Nat.le_of_ble_eq_true rfl) ⟨_, _, rfl, Nat.le_of_ble_eq_true rfl, rfl⟩ ?_
  obtain ⟨g1, H⟩ := H
  refine pt144 (s' := (14, [some (vr 297), some (vi x1)], [vi (F 298 ((70 + (8 * x1)) + 1).toNat)], (Wd S L F G h))) (by decide) [0, 298, 0, 0, 0, 0, 0, 0, 0, 0] rfl ⟨⟨trivial, ⟨Nat.le_of_ble_eq_true rfl, rfl, hh _ _ _ rfl⟩⟩, (ix ⟨Nat.le_of_ble_eq_true rfl, rfl⟩ g1)⟩ ?_
  refine wp.fin (v := some (vi (F 298 ((70 + (8 * x1)) + 1).toNat))) (by decide) am_m144 rfl ⟨_, rfl, Or.inl rfl, rfl⟩ ?_
  show wp 7 147 (10, [some (vr 297), some (vi x1), some (vi x2), some (vi x3)], [vi (F 298 ((70 + (8 * x1)) + 1).toNat), vi x3], (Wd S L F G h)) _
  obtain ⟨g2, H⟩ := H
  obtain ⟨g3, H⟩ := H
  by_cases c4 : (F 298 ((70 + (8 * x1)) + 1).toNat) ≤ x3
  · rw [if_pos c4] at H
    refine pt147 (s' := (39, [some (vr 297), some (vi x1), some (vi x2), some (vi x3)], [vi x2], (Wd S L F G h))) (by decide) [1, 0] rfl ⟨trivial, ⟨⟨g2, g3⟩, c4⟩⟩ ?_
    exact wp.fin (v := some (vi x2)) (by decide) am_m147 rfl ⟨_, rfl, Or.inl rfl, rfl⟩ H
  · rw [if_neg c4] at H
    refine pt147 (s' := (23, [some (vr 297), some (vi x1), some (vi x2), some (vi x3)], [vi x3, vi x1, vr 297, vi 22, vr 298, vi x2], (Wd S L F G h))) (by decide) [0, 0, 0, 298, 0, 0, 0, 0] rfl ⟨⟨trivial, ⟨⟨g2, g3⟩, c4⟩⟩, ⟨Nat.le_of_ble_eq_true rfl, rfl, hh _ _ _ rfl⟩⟩ ?_
    refine wp.cl am_m147 rfl am_m145 6 [vr 297, vi x1, vi x3] [vi 22, vr 298, vi x2] rfl (Nat.le_of_ble_eq_true rfl) (Nat.le_of_ble_eq_true rfl) rfl (Nat.le_of_ble_eq_true rfl) rfl (Nat.le_of_ble_eq_true rfl) (Nat.le_of_ble_eq_true rfl) ⟨_, _, rfl, Nat.le_of_ble_eq_true rfl, rfl⟩ ?_
    obtain ⟨g5, H⟩ := H
    refine pt145 (s' := (16, [some (vr 297), some (vi x1), some (vi x3)], [vi (F 298 (((70 + (8 * x1)) + 2) + x3).toNat)], (Wd S L F G h))) (by decide) [0, 298, 0, 0, 0, 0, 0, 0, 0, 0, 0, 0] rfl ⟨⟨trivial, ⟨Nat.le_of_ble_eq_true rfl, rfl, hh _ _ _ rfl⟩⟩, (ix ⟨Nat.le_of_ble_eq_true rfl, rfl⟩ g5)⟩ ?_
    refine wp.fin (v := some (vi (F 298 (((70 + (8 * x1)) + 2) + x3).toNat))) (by decide) am_m145 rfl ⟨_, rfl, Or.inl rfl, rfl⟩ ?_
    show wp 7 147 (26, [some (vr 297), some (vi x1), some (vi x2), some (vi x3)], [vi (F 298 (((70 + (8 * x1)) + 2) + x3).toNat), vi 22, vr 298, vi x2], (Wd S L F G h)) _
    obtain ⟨g6, H⟩ := H
    refine pt147 (s' := (28, [some (vr 297), some (vi x1), some (vi x2), some (vi x3)], [vi (F 298 (22 + (F 298 (((70 + (8 * x1)) + 2) + x3).toNat)).toNat), vi x2], (Wd S L F G h))) (by decide) [0, 0] rfl ⟨trivial, (ix ⟨Nat.le_of_ble_eq_true rfl, rfl⟩ g6)⟩ ?_
    refine wp.cl am_m147 rfl am_m146 6 [vi x2, vi (F 298 (22 + (F 298 (((70 + (8 * x1)) + 2) + x3).toNat)).toNat)] [] rfl (Nat.le_of_ble_eq_true rfl) (Nat.le_of_ble_eq_true rfl) rfl (Nat.le_of_ble_eq_true rfl) rfl (Nat.le_of_ble_eq_true rfl) (Nat.le_of_ble_eq_true rfl) trivial ?_
    obtain ⟨g7, H⟩ := H
    obtain ⟨g8, H⟩ := H
    obtain ⟨g9, H⟩ := H
    refine pt146 (s' := (7, [some (vi x2), some (vi (F 298 (22 + (F 298 (((70 + (8 * x1)) + 2) + x3).toNat)).toNat))], [vi ((F 298 (22 + (F 298 (((70 + (8 * x1)) + 2) + x3).toNat)).toNat) + 1), vi (x2 % 9)], (Wd S L F G h))) (by decide) [0, 0, 0, 0, 0, 0] rfl ⟨trivial, ⟨g7.1, g7.2, (by decide : (0 : Int) < 9), (by decide : (9 : Int) ≤ 2147483647)⟩⟩ ?_
    by_cases c10 : (x2 % 9) = ((F 298 (22 + (F 298 (((70 + (8 * x1)) + 2) + x3).toNat)).toNat) + 1)
    · rw [if_pos c10] at H
      refine pt146 (s' := (22, [some (vi x2), some (vi (F 298 (22 + (F 298 (((70 + (8 * x1)) + 2) + x3).toNat)).toNat))], [vi x2], (Wd S L F G h))) (by decide) [0, 0, 0] rfl ⟨trivial, ⟨⟨g8, g9⟩, c10⟩⟩ ?_
      refine wp.fin (v := some (vi x2)) (by decide) am_m146 rfl ⟨_, rfl, Or.inl rfl, rfl⟩ ?_
      show wp 7 147 (31, [some (vr 297), some (vi x1), some (vi x2), some (vi x3)], [vi x2], (Wd S L F G h)) _
      refine pt147 (s' := (4, [some (vr 297), some (vi x1), some (vi x2), some (vi (x3 + 1))], [], (Wd S L F G h))) (by decide) [0, 0, 0] rfl trivial ?_
      exact wp.weak (a := [some (vr 297), some (vi x1), some (vi x2), some (vi (x3 + 1))]) ⟨rfl, rfl, rfl, rfl, trivial⟩ H
    · rw [if_neg c10] at H
      refine pt146 (s' := (22, [some (vi x2), some (vi (F 298 (22 + (F 298 (((70 + (8 * x1)) + 2) + x3).toNat)).toNat))], [vi (((9 * x2) + (F 298 (22 + (F 298 (((70 + (8 * x1)) + 2) + x3).toNat)).toNat)) + 1)], (Wd S L F G h))) (by decide) [1, 0, 0, 0, 0, 0, 0, 0] rfl ⟨trivial, ⟨⟨g8, g9⟩, c10⟩⟩ ?_
      refine wp.fin (v := some (vi (((9 * x2) + (F 298 (22 + (F 298 (((70 + (8 * x1)) + 2) + x3).toNat)).toNat)) + 1))) (by decide) am_m146 rfl ⟨_, rfl, Or.inl rfl, rfl⟩ ?_
      show wp 7 147 (31, [some (vr 297), some (vi x1), some (vi x2), some (vi x3)], [vi (((9 * x2) + (F 298 (22 + (F 298 (((70 + (8 * x1)) + 2) + x3).toNat)).toNat)) + 1)], (Wd S L F G h)) _
      refine pt147 (s' := (4, [some (vr 297), some (vi x1), some (vi (((9 * x2) + (F 298 (22 + (F 298 (((70 + (8 * x1)) + 2) + x3).toNat)).toNat)) + 1)), some (vi (x3 + 1))], [], (Wd S L F G h))) (by decide) [0, 0, 0] rfl trivial ?_
      exact wp.weak (a := [some (vr 297), some (vi x1), some (vi (((9 * x2) + (F 298 (22 + (F 298 (((70 + (8 * x1)) + 2) + x3).toNat)).toNat)) + 1)), some (vi (x3 + 1))]) ⟨rfl, rfl, rfl, rfl, trivial⟩ H
set_option maxRecDepth 100000 in
set_option maxHeartbeats 4000000 in
theorem T148_0 {S L : Nat} {F G : Nat → Nat → Int} {h : Nat → Nat → Option Nat} (hh : RfH h) {a0 : Int}  {Q : Option V2 → W2 → Prop}
    (H : C148_4 0 a0 (Wd S L F G h) Q) : C148_0 a0 (Wd S L F G h) Q := by
  refine pt148 (s' := (4, [some (vi a0), some (vi 0), some (vi a0)], [], (Wd S L F G h))) (by decide) [0, 0, 0, 0] rfl trivial ?_
  exact wp.weak (a := [none, some (vi 0), some (vi a0)]) ⟨rfl, rfl, trivial⟩ H
set_option maxRecDepth 100000 in
set_option maxHeartbeats 4000000 in
theorem T148_4 {S L : Nat} {F G : Nat → Nat → Int} {h : Nat → Nat → Option Nat} (hh : RfH h) {x1 : Int} {x2 : Int}  {Q : Option V2 → W2 → Prop}
    (H : (R32 x2 ∧
 (if x2 ≤ 0 then
  Q (some (vi x1)) (Wd S L F G h)
 else
  (((0 : Int) ≤ x2 ∧ x2 ≤ 2147483647) ∧
  C148_4 (x1 + 1) (x2 / 9) (Wd S L F G h) Q)))) : C148_4 x1 x2 (Wd S L F G h) Q := by
  obtain ⟨g1, H⟩ := H
  refine pt148 (s' := (5, [none, some (vi x1), some (vi x2)], [vi x2], (Wd S L F G h))) (by decide) [0] rfl trivial ?_
  by_cases c2 : x2 ≤ 0
  · rw [if_pos c2] at H
    refine pt148 (s' := (20, [none, some (vi x1), some (vi x2)], [vi x1], (Wd S L F G h))) (by decide) [1, 0] rfl ⟨trivial, ⟨g1, c2⟩⟩ ?_
    exact wp.fin (v := some (vi x1)) (by decide) am_m148 rfl ⟨_, rfl, Or.inl rfl, rfl⟩ H
  · rw [if_neg c2] at H
    obtain ⟨g3, H⟩ := H
    refine pt148 (s' := (4, [none, some (vi (x1 + 1)), some (vi (x2 / 9))], [], (Wd S L F G h))) (by decide) [0, 0, 0, 0, 0, 0, 0] rfl ⟨⟨trivial, ⟨g1, c2⟩⟩, ⟨g3.1, g3.2, (by decide : (0 : Int) < 9), (by decide : (9 : Int) ≤ 2147483647)⟩⟩ ?_
    exact wp.weak (a := [none, some (vi (x1 + 1)), some (vi (x2 / 9))]) ⟨rfl, rfl, trivial⟩ H
set_option maxRecDepth 100000 in
set_option maxHeartbeats 4000000 in
theorem T149_0 {S L : Nat} {F G : Nat → Nat → Int} {h : Nat → Nat → Option Nat} (hh : RfH h) {a1 : Int}  {Q : Option V2 → W2 → Prop}
    (H : C149_4 a1 0 0 (Wd S L F G h) Q) : C149_0 a1 (Wd S L F G h) Q := by
  refine pt149 (s' := (4, [some (vr 297), some (vi a1), some (vi 0), some (vi 0)], [], (Wd S L F G h))) (by decide) [0, 0, 0, 0] rfl trivial ?_
  exact wp.weak (a := [some (vr 297), some (vi a1), some (vi 0), some (vi 0)]) ⟨rfl, rfl, rfl, rfl, trivial⟩ H
set_option maxRecDepth 100000 in
set_option maxHeartbeats 4000000 in
theorem T149_4 {S L : Nat} {F G : Nat → Nat → Int} {h : Nat → Nat → Option Nat} (hh : RfH h) {x1 : Int} {x2 : Int} {x3 : Int}  {Q : Option V2 → W2 → Prop}
    (H : (R32 x3 ∧
 R32 (F 298 1) ∧
 (if (F 298 1) ≤ x3 then
  Q (some (vi x2)) (Wd S L F G h)
 else
  C147_0 x3 (Wd S L F G h) (fun v w1 => ∃ (v4 : Int), v = some (vi v4) ∧ w1 = (Wd S L F G h) ∧
   C147_0 x1 (Wd S L F G h) (fun v w1 => ∃ (v5 : Int), v = some (vi v5) ∧ w1 = (Wd S L F G h) ∧
    (R32 v4 ∧
    R32 v5 ∧
    (if v4 = v5 then
     C149_4 x1 ((Int32.ofInt x2 ||| Int32.ofInt ((Int32.ofInt 1 <<< (Int32.ofInt x3 &&& 31)).toInt)).toInt) (x3 + 1) (Wd S L F G h) Q
    else
     C149_4 x1 ((Int32.ofInt x2 ||| Int32.ofInt 0).toInt) (x3 + 1) (Wd S L F G h) Q))))))) : C149_4 x1 x2 x3 (Wd S L F G h) Q := by
  obtain ⟨g1, H⟩ := H
  obtain ⟨g2, H⟩ := H
  refine pt149 (s' := (11, [some (vr 297), some (vi x1), some (vi x2), some (vi x3)], [vi (F 298 1), vi x3], (Wd S L F G h))) (by decide) [0, 0, 298, 0, 0] rfl ⟨⟨trivial, ⟨Nat.le_of_ble_eq_true rfl, rfl, hh _ _ _ rfl⟩⟩, (ix ⟨Nat.le_of_ble_eq_true rfl, rfl⟩ (by decide : (0 : Int) ≤ 1 ∧ (1 : Int) < 134))⟩ ?_
  by_cases c3 : (F 298 1) ≤ x3
  · rw [if_pos c3] at H
    refine pt149 (s' := (44, [some (vr 297), some (vi x1), some (vi x2), some (vi x3)], [vi x2], (Wd S L F G h))) (by decide) [1, 0] rfl ⟨trivial, ⟨⟨g1, g2⟩, c3⟩⟩ ?_
    exact wp.fin (v := some (vi x2)) (by decide) am_m149 rfl ⟨_, rfl, Or.inl rfl, rfl⟩ H
  · rw [if_neg c3] at H
    refine pt149 (s' := (17, [some (vr 297), some (vi x1), some (vi x2), some (vi x3)], [vi x3, vr 297, vi x2], (Wd S L F G h))) (by decide) [0, 0, 0, 0] rfl ⟨trivial, ⟨⟨g1, g2⟩, c3⟩⟩ ?_
    refine wp.cl am_m149 rfl am_m147 7 [vr 297, vi x3] [vi x2] rfl (Nat.le_of_ble_eq_true rfl) (Nat.le_of_ble_eq_true rfl) rfl (Nat.le_of_ble_eq_true rfl) rfl (Nat.le_of_ble_eq_true rfl) (Nat.le_of_ble_eq_true rfl) ⟨_, _, rfl, Nat.le_of_ble_eq_true rfl, rfl⟩ ?_
    refine wp.mono H ?_
    rintro v w1 ⟨v4, rfl, rfl, H⟩
    show wp 8 149 (20, [some (vr 297), some (vi x1), some (vi x2), some (vi x3)], [vi v4, vi x2], (Wd S L F G h)) _
    refine pt149 (s' := (22, [some (vr 297), some (vi x1), some (vi x2), some (vi x3)], [vi x1, vr 297, vi v4, vi x2], (Wd S L F G h))) (by decide) [0, 0] rfl trivial ?_
    refine wp.cl am_m149 rfl am_m147 7 [vr 297, vi x1] [vi v4, vi x2] rfl (Nat.le_of_ble_eq_true rfl) (Nat.le_of_ble_eq_true rfl) rfl (Nat.le_of_ble_eq_true rfl) rfl (Nat.le_of_ble_eq_true rfl) (Nat.le_of_ble_eq_true rfl) ⟨_, _, rfl, Nat.le_of_ble_eq_true rfl, rfl⟩ ?_
    refine wp.mono H ?_
    rintro v w1 ⟨v5, rfl, rfl, H⟩
    show wp 8 149 (25, [some (vr 297), some (vi x1), some (vi x2), some (vi x3)], [vi v5, vi v4, vi x2], (Wd S L F G h)) _
    obtain ⟨g6, H⟩ := H
    obtain ⟨g7, H⟩ := H
    by_cases c8 : v4 = v5
    · rw [if_pos c8] at H
      refine pt149 (s' := (4, [some (vr 297), some (vi x1), some (vi ((Int32.ofInt x2 ||| Int32.ofInt ((Int32.ofInt 1 <<< (Int32.ofInt x3 &&& 31)).toInt)).toInt)), some (vi (x3 + 1))], [], (Wd S L F G h))) (by decide) [0, 0, 0, 0, 0, 0, 0, 0, 0] rfl ⟨trivial, ⟨⟨g6, g7⟩, c8⟩⟩ ?_
      exact wp.weak (a := [some (vr 297), some (vi x1), some (vi ((Int32.ofInt x2 ||| Int32.ofInt ((Int32.ofInt 1 <<< (Int32.ofInt x3 &&& 31)).toInt)).toInt)), some (vi (x3 + 1))]) ⟨rfl, rfl, rfl, rfl, trivial⟩ H
    · rw [if_neg c8] at H
      refine pt149 (s' := (4, [some (vr 297), some (vi x1), some (vi ((Int32.ofInt x2 ||| Int32.ofInt 0).toInt)), some (vi (x3 + 1))], [], (Wd S L F G h))) (by decide) [1, 0, 0, 0, 0, 0] rfl ⟨trivial, ⟨⟨g6, g7⟩, c8⟩⟩ ?_
      exact wp.weak (a := [some (vr 297), some (vi x1), some (vi ((Int32.ofInt x2 ||| Int32.ofInt 0).toInt)), some (vi (x3 + 1))]) ⟨rfl, rfl, rfl, rfl, trivial⟩ H
set_option maxRecDepth 100000 in
set_option maxHeartbeats 4000000 in
theorem T150_0 {S L : Nat} {F G : Nat → Nat → Int} {h : Nat → Nat → Option Nat} (hh : RfH h) {a0 : Int}  {Q : Option V2 → W2 → Prop}
    (H : C150_2 a0 0 (Wd S L F G h) Q) : C150_0 a0 (Wd S L F G h) Q := by
  refine pt150 (s' := (2, [some (vi a0), some (vi 0)], [], (Wd S L F G h))) (by decide) [0, 0] rfl trivial ?_
  exact wp.weak (a := [some (vi a0), some (vi 0)]) ⟨rfl, rfl, trivial⟩ H
set_option maxRecDepth 100000 in
set_option maxHeartbeats 4000000 in
theorem T150_2 {S L : Nat} {F G : Nat → Nat → Int} {h : Nat → Nat → Option Nat} (hh : RfH h) {x0 : Int} {x1 : Int}  {Q : Option V2 → W2 → Prop}
    (H : (R32 ((Int32.ofInt ((Int32.ofInt x0 >>> (Int32.ofInt x1 &&& 31)).toInt) &&& Int32.ofInt 1).toInt) ∧
 (if ((Int32.ofInt ((Int32.ofInt x0 >>> (Int32.ofInt x1 &&& 31)).toInt) &&& Int32.ofInt 1).toInt) = 0 then
  C150_2 x0 (x1 + 1) (Wd S L F G h) Q
 else
  Q (some (vi x1)) (Wd S L F G h)))) : C150_2 x0 x1 (Wd S L F G h) Q := by
  obtain ⟨g1, H⟩ := H
  refine pt150 (s' := (7, [some (vi x0), some (vi x1)], [vi ((Int32.ofInt ((Int32.ofInt x0 >>> (Int32.ofInt x1 &&& 31)).toInt) &&& Int32.ofInt 1).toInt)], (Wd S L F G h))) (by decide) [0, 0, 0, 0, 0] rfl trivial ?_
  by_cases c2 : ((Int32.ofInt ((Int32.ofInt x0 >>> (Int32.ofInt x1 &&& 31)).toInt) &&& Int32.ofInt 1).toInt) = 0
  · rw [if_pos c2] at H
    refine pt150 (s' := (2, [some (vi x0), some (vi (x1 + 1))], [], (Wd S L F G h))) (by decide) [0, 0, 0] rfl ⟨trivial, ⟨g1, c2⟩⟩ ?_
    exact wp.weak (a := [some (vi x0), some (vi (x1 + 1))]) ⟨rfl, rfl, trivial⟩ H
  · rw [if_neg c2] at H
    refine pt150 (s' := (17, [some (vi x0), some (vi x1)], [vi x1], (Wd S L F G h))) (by decide) [1, 0] rfl ⟨trivial, ⟨g1, c2⟩⟩ ?_
    exact wp.fin (v := some (vi x1)) (by decide) am_m150 rfl ⟨_, rfl, Or.inl rfl, rfl⟩ H
set_option maxRecDepth 100000 in
set_option maxHeartbeats 4000000 in
theorem T151_0 {S L : Nat} {F G : Nat → Nat → Int} {h : Nat → Nat → Option Nat} (hh : RfH h) {a0 : Int}  {Q : Option V2 → W2 → Prop}
    (H : C151_4 0 a0 (Wd S L F G h) Q) : C151_0 a0 (Wd S L F G h) Q := by
  refine pt151 (s' := (4, [some (vi a0), some (vi 0), some (vi a0)], [], (Wd S L F G h))) (by decide) [0, 0, 0, 0] rfl trivial ?_
  exact wp.weak (a := [none, some (vi 0), some (vi a0)]) ⟨rfl, rfl, trivial⟩ H
set_option maxRecDepth 100000 in
set_option maxHeartbeats 4000000 in
theorem T151_4 {S L : Nat} {F G : Nat → Nat → Int} {h : Nat → Nat → Option Nat} (hh : RfH h) {x1 : Int} {x2 : Int}  {Q : Option V2 → W2 → Prop}
    (H : (R32 x2 ∧
 (if x2 = 0 then
  Q (some (vi x1)) (Wd S L F G h)
 else
  C151_4 (x1 + 1) ((Int32.ofInt x2 &&& Int32.ofInt (x2 - 1)).toInt) (Wd S L F G h) Q))) : C151_4 x1 x2 (Wd S L F G h) Q := by
  obtain ⟨g1, H⟩ := H
  refine pt151 (s' := (5, [none, some (vi x1), some (vi x2)], [vi x2], (Wd S L F G h))) (by decide) [0] rfl trivial ?_
  by_cases c2 : x2 = 0
  · rw [if_pos c2] at H
    refine pt151 (s' := (21, [none, some (vi x1), some (vi x2)], [vi x1], (Wd S L F G h))) (by decide) [1, 0] rfl ⟨trivial, ⟨g1, c2⟩⟩ ?_
    exact wp.fin (v := some (vi x1)) (by decide) am_m151 rfl ⟨_, rfl, Or.inl rfl, rfl⟩ H
  · rw [if_neg c2] at H
    refine pt151 (s' := (4, [none, some (vi (x1 + 1)), some (vi ((Int32.ofInt x2 &&& Int32.ofInt (x2 - 1)).toInt))], [], (Wd S L F G h))) (by decide) [0, 0, 0, 0, 0, 0, 0, 0, 0] rfl ⟨trivial, ⟨g1, c2⟩⟩ ?_
    exact wp.weak (a := [none, some (vi (x1 + 1)), some (vi ((Int32.ofInt x2 &&& Int32.ofInt (x2 - 1)).toInt))]) ⟨rfl, rfl, trivial⟩ H
