/-! the methods walked, by program (wip/whole/sym.py) -/
set_option maxRecDepth 100000 in
set_option maxHeartbeats 4000000 in
theorem T176_0 {S L : Nat} {F G : Nat → Nat → Int} {h : Nat → Nat → Option Nat} (hh : RfH h)   {Q : Option V2 → W2 → Prop}
    (H : C172_0  (Wd S L F G h) (fun v w1 => ∃ (v1 : Int) (F2 : Nat → Nat → Int), v = some (vi v1) ∧ w1 = (Wd S L F2 G h) ∧
  (R32 v1 ∧
  (if v1 < 48 then
   C174_0 0 (Wd S L F2 G h) (fun v w1 => ∃ (F5 : Nat → Nat → Int), v = none ∧ w1 = (Wd S L F5 G h) ∧
    (R32 (F5 297 23) ∧
    (if (F5 297 23) = 0 then
     (R32 (F5 297 22) ∧
     R32 (F5 297 7) ∧
     (if (F5 297 7) ≤ (F5 297 22) then
      (R32 (v1 - 48) ∧
      (if (v1 - 48) < 1 then
       Q (none) (Wd S L (am_up (am_up (am_up F5 297 24 (v1 - 48)) 297 23 1) 297 22 (F2 297 22)) G h)
      else
       (if 12 < (v1 - 48) then
        Q (none) (Wd S L (am_up (am_up (am_up F5 297 24 (v1 - 48)) 297 23 1) 297 22 (F2 297 22)) G h)
       else
        Q (none) (Wd S L (am_up F5 297 24 (v1 - 48)) G h))))
     else
      ((0 ≤ (F5 297 22) ∧ (F5 297 22) < 90) ∧
      R32 (F5 302 (F5 297 22).toNat) ∧
      (if (F5 302 (F5 297 22).toNat) < 48 then
       (R32 (v1 - 48) ∧
       (if (v1 - 48) < 1 then
        Q (none) (Wd S L (am_up (am_up (am_up F5 297 24 (v1 - 48)) 297 23 1) 297 22 (F2 297 22)) G h)
       else
        (if 12 < (v1 - 48) then
         Q (none) (Wd S L (am_up (am_up (am_up F5 297 24 (v1 - 48)) 297 23 1) 297 22 (F2 297 22)) G h)
        else
         Q (none) (Wd S L (am_up F5 297 24 (v1 - 48)) G h))))
      else
       (if 57 < (F5 302 (F5 297 22).toNat) then
        (R32 (v1 - 48) ∧
        (if (v1 - 48) < 1 then
         Q (none) (Wd S L (am_up (am_up (am_up F5 297 24 (v1 - 48)) 297 23 1) 297 22 (F2 297 22)) G h)
        else
         (if 12 < (v1 - 48) then
          Q (none) (Wd S L (am_up (am_up (am_up F5 297 24 (v1 - 48)) 297 23 1) 297 22 (F2 297 22)) G h)
         else
          Q (none) (Wd S L (am_up F5 297 24 (v1 - 48)) G h))))
       else
        (R32 (((10 * (v1 - 48)) + (F5 302 (F5 297 22).toNat)) - 48) ∧
        (if (((10 * (v1 - 48)) + (F5 302 (F5 297 22).toNat)) - 48) < 1 then
         Q (none) (Wd S L (am_up (am_up (am_up (am_up (am_up F5 297 24 (v1 - 48)) 297 24 (((10 * (v1 - 48)) + (F5 302 (F5 297 22).toNat)) - 48)) 297 22 ((F5 297 22) + 1)) 297 23 1) 297 22 (F2 297 22)) G h)
        else
         (if 12 < (((10 * (v1 - 48)) + (F5 302 (F5 297 22).toNat)) - 48) then
          Q (none) (Wd S L (am_up (am_up (am_up (am_up (am_up F5 297 24 (v1 - 48)) 297 24 (((10 * (v1 - 48)) + (F5 302 (F5 297 22).toNat)) - 48)) 297 22 ((F5 297 22) + 1)) 297 23 1) 297 22 (F2 297 22)) G h)
         else
          Q (none) (Wd S L (am_up (am_up (am_up F5 297 24 (v1 - 48)) 297 24 (((10 * (v1 - 48)) + (F5 302 (F5 297 22).toNat)) - 48)) 297 22 ((F5 297 22) + 1)) G h)))))))))
    else
     Q (none) (Wd S L (am_up F5 297 24 (v1 - 48)) G h))))
  else
   (if 57 < v1 then
    C174_0 0 (Wd S L F2 G h) (fun v w1 => ∃ (F28 : Nat → Nat → Int), v = none ∧ w1 = (Wd S L F28 G h) ∧
     (R32 (F28 297 23) ∧
     (if (F28 297 23) = 0 then
      (R32 (F28 297 22) ∧
      R32 (F28 297 7) ∧
      (if (F28 297 7) ≤ (F28 297 22) then
       (R32 (v1 - 48) ∧
       (if (v1 - 48) < 1 then
        Q (none) (Wd S L (am_up (am_up (am_up F28 297 24 (v1 - 48)) 297 23 1) 297 22 (F2 297 22)) G h)
       else
        (if 12 < (v1 - 48) then
         Q (none) (Wd S L (am_up (am_up (am_up F28 297 24 (v1 - 48)) 297 23 1) 297 22 (F2 297 22)) G h)
        else
         Q (none) (Wd S L (am_up F28 297 24 (v1 - 48)) G h))))
      else
       ((0 ≤ (F28 297 22) ∧ (F28 297 22) < 90) ∧
       R32 (F28 302 (F28 297 22).toNat) ∧
       (if (F28 302 (F28 297 22).toNat) < 48 then
        (R32 (v1 - 48) ∧
        (if (v1 - 48) < 1 then
         Q (none) (Wd S L (am_up (am_up (am_up F28 297 24 (v1 - 48)) 297 23 1) 297 22 (F2 297 22)) G h)
        else
         (if 12 < (v1 - 48) then
          Q (none) (Wd S L (am_up (am_up (am_up F28 297 24 (v1 - 48)) 297 23 1) 297 22 (F2 297 22)) G h)
         else
          Q (none) (Wd S L (am_up F28 297 24 (v1 - 48)) G h))))
       else
        (if 57 < (F28 302 (F28 297 22).toNat) then
         (R32 (v1 - 48) ∧
         (if (v1 - 48) < 1 then
          Q (none) (Wd S L (am_up (am_up (am_up F28 297 24 (v1 - 48)) 297 23 1) 297 22 (F2 297 22)) G h)
         else
          (if 12 < (v1 - 48) then
           Q (none) (Wd S L (am_up (am_up (am_up F28 297 24 (v1 - 48)) 297 23 1) 297 22 (F2 297 22)) G h)
          else
           Q (none) (Wd S L (am_up F28 297 24 (v1 - 48)) G h))))
        else
         (R32 (((10 * (v1 - 48)) + (F28 302 (F28 297 22).toNat)) - 48) ∧
         (if (((10 * (v1 - 48)) + (F28 302 (F28 297 22).toNat)) - 48) < 1 then
          Q (none) (Wd S L (am_up (am_up (am_up (am_up (am_up F28 297 24 (v1 - 48)) 297 24 (((10 * (v1 - 48)) + (F28 302 (F28 297 22).toNat)) - 48)) 297 22 ((F28 297 22) + 1)) 297 23 1) 297 22 (F2 297 22)) G h)
         else
          (if 12 < (((10 * (v1 - 48)) + (F28 302 (F28 297 22).toNat)) - 48) then
           Q (none) (Wd S L (am_up (am_up (am_up (am_up (am_up F28 297 24 (v1 - 48)) 297 24 (((10 * (v1 - 48)) + (F28 302 (F28 297 22).toNat)) - 48)) 297 22 ((F28 297 22) + 1)) 297 23 1) 297 22 (F2 297 22)) G h)
          else
           Q (none) (Wd S L (am_up (am_up (am_up F28 297 24 (v1 - 48)) 297 24 (((10 * (v1 - 48)) + (F28 302 (F28 297 22).toNat)) - 48)) 297 22 ((F28 297 22) + 1)) G h)))))))))
     else
      Q (none) (Wd S L (am_up F28 297 24 (v1 - 48)) G h))))
   else
    C174_0 1 (Wd S L F2 G h) (fun v w1 => ∃ (F50 : Nat → Nat → Int), v = none ∧ w1 = (Wd S L F50 G h) ∧
     (R32 (F50 297 23) ∧
     (if (F50 297 23) = 0 then
      (R32 (F50 297 22) ∧
      R32 (F50 297 7) ∧
      (if (F50 297 7) ≤ (F50 297 22) then
       (R32 (v1 - 48) ∧
       (if (v1 - 48) < 1 then
        Q (none) (Wd S L (am_up (am_up (am_up F50 297 24 (v1 - 48)) 297 23 1) 297 22 (F2 297 22)) G h)
       else
        (if 12 < (v1 - 48) then
         Q (none) (Wd S L (am_up (am_up (am_up F50 297 24 (v1 - 48)) 297 23 1) 297 22 (F2 297 22)) G h)
        else
         Q (none) (Wd S L (am_up F50 297 24 (v1 - 48)) G h))))
      else
       ((0 ≤ (F50 297 22) ∧ (F50 297 22) < 90) ∧
       R32 (F50 302 (F50 297 22).toNat) ∧
       (if (F50 302 (F50 297 22).toNat) < 48 then
        (R32 (v1 - 48) ∧
        (if (v1 - 48) < 1 then
         Q (none) (Wd S L (am_up (am_up (am_up F50 297 24 (v1 - 48)) 297 23 1) 297 22 (F2 297 22)) G h)
        else
         (if 12 < (v1 - 48) then
          Q (none) (Wd S L (am_up (am_up (am_up F50 297 24 (v1 - 48)) 297 23 1) 297 22 (F2 297 22)) G h)
         else
          Q (none) (Wd S L (am_up F50 297 24 (v1 - 48)) G h))))
       else
        (if 57 < (F50 302 (F50 297 22).toNat) then
         (R32 (v1 - 48) ∧
         (if (v1 - 48) < 1 then
          Q (none) (Wd S L (am_up (am_up (am_up F50 297 24 (v1 - 48)) 297 23 1) 297 22 (F2 297 22)) G h)
         else
          (if 12 < (v1 - 48) then
           Q (none) (Wd S L (am_up (am_up (am_up F50 297 24 (v1 - 48)) 297 23 1) 297 22 (F2 297 22)) G h)
          else
           Q (none) (Wd S L (am_up F50 297 24 (v1 - 48)) G h))))
        else
         (R32 (((10 * (v1 - 48)) + (F50 302 (F50 297 22).toNat)) - 48) ∧
         (if (((10 * (v1 - 48)) + (F50 302 (F50 297 22).toNat)) - 48) < 1 then
          Q (none) (Wd S L (am_up (am_up (am_up (am_up (am_up F50 297 24 (v1 - 48)) 297 24 (((10 * (v1 - 48)) + (F50 302 (F50 297 22).toNat)) - 48)) 297 22 ((F50 297 22) + 1)) 297 23 1) 297 22 (F2 297 22)) G h)
         else
          (if 12 < (((10 * (v1 - 48)) + (F50 302 (F50 297 22).toNat)) - 48) then
           Q (none) (Wd S L (am_up (am_up (am_up (am_up (am_up F50 297 24 (v1 - 48)) 297 24 (((10 * (v1 - 48)) + (F50 302 (F50 297 22).toNat)) - 48)) 297 22 ((F50 297 22) + 1)) 297 23 1) 297 22 (F2 297 22)) G h)
          else
           Q (none) (Wd S L (am_up (am_up (am_up F50 297 24 (v1 - 48)) 297 24 (((10 * (v1 - 48)) + (F50 302 (F50 297 22).toNat)) - 48)) 297 22 ((F50 297 22) + 1)) G h)))))))))
     else
      Q (none) (Wd S L (am_up F50 297 24 (v1 - 48)) G h))))))))) : C176_0  (Wd S L F G h) Q := by
  refine pt176 (s' := (1, [some (vr 297), none, none], [vr 297], (Wd S L F G h))) (by decide) [0] rfl trivial ?_
  refine wp.cl am_m176 rfl am_m172 7 [vr 297] [] rfl (Nat.le_of_ble_eq_true rfl) (Nat.le_of_ble_eq_true rfl) rfl (Nat.le_of_ble_eq_true rfl) rfl (Nat.le_of_ble_eq_true rfl) (Nat.le_of_ble_eq_true rfl) ⟨_, _, rfl, Nat.le_of_ble_eq_true rfl, rfl⟩ ?_
  refine wp.mono H ?_
  rintro v w1 ⟨v1, F2, rfl, rfl, H⟩
  show wp 8 176 (4, [some (vr 297), none, none], [vi v1], (Wd S L F2 G h)) _
  obtain ⟨g3, H⟩ := H
  refine pt176 (s' := (19, [some (vr 297), some (vi v1), some (vi (F2 297 22))], [vj 57, vj 48, vj v1, vr 297], (Wd S L F2 G h))) (by decide) [0, 0, 0, 0, 0, 0, 0, 0, 0] rfl ⟨⟨trivial, ⟨Nat.le_of_ble_eq_true rfl, rfl⟩⟩, g3⟩ ?_
  refine wp.cl am_m176 rfl am_m112 6 [vj v1, vj 48, vj 57] [vr 297] rfl (Nat.le_of_ble_eq_true rfl) (Nat.le_of_ble_eq_true rfl) rfl (Nat.le_of_ble_eq_true rfl) rfl (Nat.le_of_ble_eq_true rfl) (Nat.le_of_ble_eq_true rfl) trivial ?_
  refine pt112 (s' := (3, [some (vj v1), none, some (vj 48), none, some (vj 57), none], [vi (y_cmp v1 48)], (Wd S L F2 G h))) (by decide) [0, 0, 0] rfl ⟨trivial, ⟨(r64 g3), (by decide : R64 48)⟩⟩ ?_
  by_cases c4 : v1 < 48
  · rw [if_pos c4] at H
    refine pt112 (s' := (18, [some (vj v1), none, some (vj 48), none, some (vj 57), none], [vi 0], (Wd S L F2 G h))) (by decide) [1, 0] rfl ⟨trivial, ⟨y_cmp_r32, (y_cmp_lt.mpr c4)⟩⟩ ?_
    refine wp.fin (v := some (vi 0)) (by decide) am_m112 rfl ⟨_, rfl, Or.inr ⟨rfl, Or.inl rfl⟩, rfl⟩ ?_
    show wp 8 176 (22, [some (vr 297), some (vi v1), some (vi (F2 297 22))], [vi 0, vr 297], (Wd S L F2 G h)) _
    refine wp.cl am_m176 rfl am_m174 6 [vr 297, vi 0] [] rfl (Nat.le_of_ble_eq_true rfl) (Nat.le_of_ble_eq_true rfl) rfl (Nat.le_of_ble_eq_true rfl) rfl (Nat.le_of_ble_eq_true rfl) (Nat.le_of_ble_eq_true rfl) ⟨_, _, rfl, Nat.le_of_ble_eq_true rfl, rfl⟩ ?_
    refine wp.mono H ?_
    rintro v w1 ⟨F5, rfl, rfl, H⟩
    show wp 8 176 (25, [some (vr 297), some (vi v1), some (vi (F2 297 22))], [], (Wd S L F5 G h)) _
    obtain ⟨g6, H⟩ := H
    refine pt176 (s' := (37, [some (vr 297), some (vi v1), some (vi (F2 297 22))], [vi (F5 297 23)], (Wd S L (am_up F5 297 24 (v1 - 48)) G h))) (by decide) [0, 0, 0, 0, 0, 0, 0] rfl ⟨⟨trivial, ⟨Nat.le_of_ble_eq_true rfl, rfl, fun h => by cases h⟩⟩, ⟨Nat.le_of_ble_eq_true rfl, rfl⟩⟩ ?_
    by_cases c7 : (F5 297 23) = 0
    · rw [if_pos c7] at H
      refine pt176 (s' := (41, [some (vr 297), some (vi v1), some (vi (F2 297 22))], [vr 297], (Wd S L (am_up F5 297 24 (v1 - 48)) G h))) (by decide) [0, 0] rfl ⟨trivial, ⟨g6, c7⟩⟩ ?_
      refine wp.cl am_m176 rfl am_m173 6 [vr 297] [] rfl (Nat.le_of_ble_eq_true rfl) (Nat.le_of_ble_eq_true rfl) rfl (Nat.le_of_ble_eq_true rfl) rfl (Nat.le_of_ble_eq_true rfl) (Nat.le_of_ble_eq_true rfl) ⟨_, _, rfl, Nat.le_of_ble_eq_true rfl, rfl⟩ ?_
      obtain ⟨g8, H⟩ := H
      obtain ⟨g9, H⟩ := H
      refine pt173 (s' := (8, [some (vr 297)], [vi (F5 297 7), vi (F5 297 22)], (Wd S L (am_up F5 297 24 (v1 - 48)) G h))) (by decide) [0, 0, 0, 0] rfl ⟨⟨trivial, ⟨Nat.le_of_ble_eq_true rfl, rfl⟩⟩, ⟨Nat.le_of_ble_eq_true rfl, rfl⟩⟩ ?_
      by_cases c10 : (F5 297 7) ≤ (F5 297 22)
      · rw [if_pos c10] at H
        refine pt173 (s' := (24, [some (vr 297)], [vi 0], (Wd S L (am_up F5 297 24 (v1 - 48)) G h))) (by decide) [1, 0] rfl ⟨trivial, ⟨⟨g8, g9⟩, c10⟩⟩ ?_
        refine wp.fin (v := some (vi 0)) (by decide) am_m173 rfl ⟨_, rfl, Or.inl rfl, rfl⟩ ?_
        show wp 8 176 (44, [some (vr 297), some (vi v1), some (vi (F2 297 22))], [vi 0], (Wd S L (am_up F5 297 24 (v1 - 48)) G h)) _
        refine pt176 (s' := (51, [some (vr 297), some (vi v1), some (vi (F2 297 22))], [vj 57, vj 48, vj 0], (Wd S L (am_up F5 297 24 (v1 - 48)) G h))) (by decide) [0, 0, 0] rfl ⟨trivial, (by decide : R32 0)⟩ ?_
        refine wp.cl am_m176 rfl am_m112 6 [vj 0, vj 48, vj 57] [] rfl (Nat.le_of_ble_eq_true rfl) (Nat.le_of_ble_eq_true rfl) rfl (Nat.le_of_ble_eq_true rfl) rfl (Nat.le_of_ble_eq_true rfl) (Nat.le_of_ble_eq_true rfl) trivial ?_
        refine pt112 (s' := (18, [some (vj 0), none, some (vj 48), none, some (vj 57), none], [vi 0], (Wd S L (am_up F5 297 24 (v1 - 48)) G h))) (by decide) [0, 0, 0, 1, 0] rfl ⟨⟨trivial, ⟨(by decide : R64 0), (by decide : R64 48)⟩⟩, ⟨y_cmp_r32, (by decide : ((y_cmp 0 48) : Int) < (0 : Int))⟩⟩ ?_
        refine wp.fin (v := some (vi 0)) (by decide) am_m112 rfl ⟨_, rfl, Or.inr ⟨rfl, Or.inl rfl⟩, rfl⟩ ?_
        show wp 8 176 (54, [some (vr 297), some (vi v1), some (vi (F2 297 22))], [vi 0], (Wd S L (am_up F5 297 24 (v1 - 48)) G h)) _
        obtain ⟨g11, H⟩ := H
        refine pt176 (s' := (102, [some (vr 297), some (vi v1), some (vi (F2 297 22))], [vj 12, vj 1, vj (v1 - 48)], (Wd S L (am_up F5 297 24 (v1 - 48)) G h))) (by decide) [1, 0, 0, 0, 0, 0, 0, 0, 0] rfl ⟨⟨⟨⟨⟨trivial, ⟨(by decide : R32 0), (by decide : (0 : Int) = (0 : Int))⟩⟩, ⟨Nat.le_of_ble_eq_true rfl, rfl⟩⟩, ⟨g6, c7⟩⟩, ⟨Nat.le_of_ble_eq_true rfl, rfl⟩⟩, g11⟩ ?_
        refine wp.cl am_m176 rfl am_m112 6 [vj (v1 - 48), vj 1, vj 12] [] rfl (Nat.le_of_ble_eq_true rfl) (Nat.le_of_ble_eq_true rfl) rfl (Nat.le_of_ble_eq_true rfl) rfl (Nat.le_of_ble_eq_true rfl) (Nat.le_of_ble_eq_true rfl) trivial ?_
        refine pt112 (s' := (3, [some (vj (v1 - 48)), none, some (vj 1), none, some (vj 12), none], [vi (y_cmp (v1 - 48) 1)], (Wd S L (am_up F5 297 24 (v1 - 48)) G h))) (by decide) [0, 0, 0] rfl ⟨trivial, ⟨(r64 g11), (by decide : R64 1)⟩⟩ ?_
        by_cases c12 : (v1 - 48) < 1
        · rw [if_pos c12] at H
          refine pt112 (s' := (18, [some (vj (v1 - 48)), none, some (vj 1), none, some (vj 12), none], [vi 0], (Wd S L (am_up F5 297 24 (v1 - 48)) G h))) (by decide) [1, 0] rfl ⟨trivial, ⟨y_cmp_r32, (y_cmp_lt.mpr c12)⟩⟩ ?_
          refine wp.fin (v := some (vi 0)) (by decide) am_m112 rfl ⟨_, rfl, Or.inr ⟨rfl, Or.inl rfl⟩, rfl⟩ ?_
          show wp 8 176 (105, [some (vr 297), some (vi v1), some (vi (F2 297 22))], [vi 0], (Wd S L (am_up F5 297 24 (v1 - 48)) G h)) _
          refine pt176 (s' := (118, [some (vr 297), some (vi v1), some (vi (F2 297 22))], [], (Wd S L (am_up (am_up (am_up F5 297 24 (v1 - 48)) 297 23 1) 297 22 (F2 297 22)) G h))) (by decide) [0, 0, 0, 0, 0, 0, 0] rfl ⟨⟨⟨trivial, ⟨(by decide : R32 0), (by decide : (0 : Int) = (0 : Int))⟩⟩, ⟨Nat.le_of_ble_eq_true rfl, rfl, fun _ => Or.inr rfl⟩⟩, ⟨Nat.le_of_ble_eq_true rfl, rfl, fun h => by cases h⟩⟩ ?_
          exact wp.fin (v := none) (by decide) am_m176 rfl ⟨rfl, rfl, rfl⟩ H
        · rw [if_neg c12] at H
          refine pt112 (s' := (10, [some (vj (v1 - 48)), none, some (vj 1), none, some (vj 12), none], [vi (y_cmp (v1 - 48) 12)], (Wd S L (am_up F5 297 24 (v1 - 48)) G h))) (by decide) [0, 0, 0, 0] rfl ⟨⟨trivial, ⟨y_cmp_r32, (fun e => c12 (y_cmp_lt.mp e))⟩⟩, ⟨(r64 g11), (by decide : R64 12)⟩⟩ ?_
          by_cases c13 : 12 < (v1 - 48)
          · rw [if_pos c13] at H
            refine pt112 (s' := (18, [some (vj (v1 - 48)), none, some (vj 1), none, some (vj 12), none], [vi 0], (Wd S L (am_up F5 297 24 (v1 - 48)) G h))) (by decide) [1, 0] rfl ⟨trivial, ⟨y_cmp_r32, (y_cmp_gt.mpr c13)⟩⟩ ?_
            refine wp.fin (v := some (vi 0)) (by decide) am_m112 rfl ⟨_, rfl, Or.inr ⟨rfl, Or.inl rfl⟩, rfl⟩ ?_
            show wp 8 176 (105, [some (vr 297), some (vi v1), some (vi (F2 297 22))], [vi 0], (Wd S L (am_up F5 297 24 (v1 - 48)) G h)) _
            refine pt176 (s' := (118, [some (vr 297), some (vi v1), some (vi (F2 297 22))], [], (Wd S L (am_up (am_up (am_up F5 297 24 (v1 - 48)) 297 23 1) 297 22 (F2 297 22)) G h))) (by decide) [0, 0, 0, 0, 0, 0, 0] rfl ⟨⟨⟨trivial, ⟨(by decide : R32 0), (by decide : (0 : Int) = (0 : Int))⟩⟩, ⟨Nat.le_of_ble_eq_true rfl, rfl, fun _ => Or.inr rfl⟩⟩, ⟨Nat.le_of_ble_eq_true rfl, rfl, fun h => by cases h⟩⟩ ?_
            exact wp.fin (v := none) (by decide) am_m176 rfl ⟨rfl, rfl, rfl⟩ H
          · rw [if_neg c13] at H
            refine pt112 (s' := (18, [some (vj (v1 - 48)), none, some (vj 1), none, some (vj 12), none], [vi 1], (Wd S L (am_up F5 297 24 (v1 - 48)) G h))) (by decide) [0, 0, 0] rfl ⟨trivial, ⟨y_cmp_r32, (fun e => c13 (y_cmp_gt.mp e))⟩⟩ ?_
            refine wp.fin (v := some (vi 1)) (by decide) am_m112 rfl ⟨_, rfl, Or.inr ⟨rfl, Or.inr rfl⟩, rfl⟩ ?_
            show wp 8 176 (105, [some (vr 297), some (vi v1), some (vi (F2 297 22))], [vi 1], (Wd S L (am_up F5 297 24 (v1 - 48)) G h)) _
            refine pt176 (s' := (118, [some (vr 297), some (vi v1), some (vi (F2 297 22))], [], (Wd S L (am_up F5 297 24 (v1 - 48)) G h))) (by decide) [1] rfl ⟨trivial, ⟨(by decide : R32 1), (by decide : ¬ (1 : Int) = (0 : Int))⟩⟩ ?_
            exact wp.fin (v := none) (by decide) am_m176 rfl ⟨rfl, rfl, rfl⟩ H
      · rw [if_neg c10] at H
        obtain ⟨g14, H⟩ := H
        refine pt173 (s' := (24, [some (vr 297)], [vi (F5 302 (F5 297 22).toNat)], (Wd S L (am_up F5 297 24 (v1 - 48)) G h))) (by decide) [0, 0, 302, 0, 0, 0, 0] rfl ⟨⟨⟨⟨trivial, ⟨⟨g8, g9⟩, c10⟩⟩, ⟨Nat.le_of_ble_eq_true rfl, rfl, hh _ _ _ rfl⟩⟩, ⟨Nat.le_of_ble_eq_true rfl, rfl⟩⟩, (ix ⟨Nat.le_of_ble_eq_true rfl, rfl⟩ g14)⟩ ?_
        refine wp.fin (v := some (vi (F5 302 (F5 297 22).toNat))) (by decide) am_m173 rfl ⟨_, rfl, Or.inl rfl, rfl⟩ ?_
        show wp 8 176 (44, [some (vr 297), some (vi v1), some (vi (F2 297 22))], [vi (F5 302 (F5 297 22).toNat)], (Wd S L (am_up F5 297 24 (v1 - 48)) G h)) _
        obtain ⟨g15, H⟩ := H
        refine pt176 (s' := (51, [some (vr 297), some (vi v1), some (vi (F2 297 22))], [vj 57, vj 48, vj (F5 302 (F5 297 22).toNat)], (Wd S L (am_up F5 297 24 (v1 - 48)) G h))) (by decide) [0, 0, 0] rfl ⟨trivial, g15⟩ ?_
        refine wp.cl am_m176 rfl am_m112 6 [vj (F5 302 (F5 297 22).toNat), vj 48, vj 57] [] rfl (Nat.le_of_ble_eq_true rfl) (Nat.le_of_ble_eq_true rfl) rfl (Nat.le_of_ble_eq_true rfl) rfl (Nat.le_of_ble_eq_true rfl) (Nat.le_of_ble_eq_true rfl) trivial ?_
        refine pt112 (s' := (3, [some (vj (F5 302 (F5 297 22).toNat)), none, some (vj 48), none, some (vj 57), none], [vi (y_cmp (F5 302 (F5 297 22).toNat) 48)], (Wd S L (am_up F5 297 24 (v1 - 48)) G h))) (by decide) [0, 0, 0] rfl ⟨trivial, ⟨(r64 g15), (by decide : R64 48)⟩⟩ ?_
        by_cases c16 : (F5 302 (F5 297 22).toNat) < 48
        · rw [if_pos c16] at H
          refine pt112 (s' := (18, [some (vj (F5 302 (F5 297 22).toNat)), none, some (vj 48), none, some (vj 57), none], [vi 0], (Wd S L (am_up F5 297 24 (v1 - 48)) G h))) (by decide) [1, 0] rfl ⟨trivial, ⟨y_cmp_r32, (y_cmp_lt.mpr c16)⟩⟩ ?_
          refine wp.fin (v := some (vi 0)) (by decide) am_m112 rfl ⟨_, rfl, Or.inr ⟨rfl, Or.inl rfl⟩, rfl⟩ ?_
          show wp 8 176 (54, [some (vr 297), some (vi v1), some (vi (F2 297 22))], [vi 0], (Wd S L (am_up F5 297 24 (v1 - 48)) G h)) _
          obtain ⟨g17, H⟩ := H
          refine pt176 (s' := (102, [some (vr 297), some (vi v1), some (vi (F2 297 22))], [vj 12, vj 1, vj (v1 - 48)], (Wd S L (am_up F5 297 24 (v1 - 48)) G h))) (by decide) [1, 0, 0, 0, 0, 0, 0, 0, 0] rfl ⟨⟨⟨⟨⟨trivial, ⟨(by decide : R32 0), (by decide : (0 : Int) = (0 : Int))⟩⟩, ⟨Nat.le_of_ble_eq_true rfl, rfl⟩⟩, ⟨g6, c7⟩⟩, ⟨Nat.le_of_ble_eq_true rfl, rfl⟩⟩, g17⟩ ?_
          refine wp.cl am_m176 rfl am_m112 6 [vj (v1 - 48), vj 1, vj 12] [] rfl (Nat.le_of_ble_eq_true rfl) (Nat.le_of_ble_eq_true rfl) rfl (Nat.le_of_ble_eq_true rfl) rfl (Nat.le_of_ble_eq_true rfl) (Nat.le_of_ble_eq_true rfl) trivial ?_
          refine pt112 (s' := (3, [some (vj (v1 - 48)), none, some (vj 1), none, some (vj 12), none], [vi (y_cmp (v1 - 48) 1)], (Wd S L (am_up F5 297 24 (v1 - 48)) G h))) (by decide) [0, 0, 0] rfl ⟨trivial, ⟨(r64 g17), (by decide : R64 1)⟩⟩ ?_
          by_cases c18 : (v1 - 48) < 1
          · rw [if_pos c18] at H
            refine pt112 (s' := (18, [some (vj (v1 - 48)), none, some (vj 1), none, some (vj 12), none], [vi 0], (Wd S L (am_up F5 297 24 (v1 - 48)) G h))) (by decide) [1, 0] rfl ⟨trivial, ⟨y_cmp_r32, (y_cmp_lt.mpr c18)⟩⟩ ?_
            refine wp.fin (v := some (vi 0)) (by decide) am_m112 rfl ⟨_, rfl, Or.inr ⟨rfl, Or.inl rfl⟩, rfl⟩ ?_
            show wp 8 176 (105, [some (vr 297), some (vi v1), some (vi (F2 297 22))], [vi 0], (Wd S L (am_up F5 297 24 (v1 - 48)) G h)) _
            refine pt176 (s' := (118, [some (vr 297), some (vi v1), some (vi (F2 297 22))], [], (Wd S L (am_up (am_up (am_up F5 297 24 (v1 - 48)) 297 23 1) 297 22 (F2 297 22)) G h))) (by decide) [0, 0, 0, 0, 0, 0, 0] rfl ⟨⟨⟨trivial, ⟨(by decide : R32 0), (by decide : (0 : Int) = (0 : Int))⟩⟩, ⟨Nat.le_of_ble_eq_true rfl, rfl, fun _ => Or.inr rfl⟩⟩, ⟨Nat.le_of_ble_eq_true rfl, rfl, fun h => by cases h⟩⟩ ?_
            exact wp.fin (v := none) (by decide) am_m176 rfl ⟨rfl, rfl, rfl⟩ H
          · rw [if_neg c18] at H
            refine pt112 (s' := (10, [some (vj (v1 - 48)), none, some (vj 1), none, some (vj 12), none], [vi (y_cmp (v1 - 48) 12)], (Wd S L (am_up F5 297 24 (v1 - 48)) G h))) (by decide) [0, 0, 0, 0] rfl ⟨⟨trivial, ⟨y_cmp_r32, (fun e => c18 (y_cmp_lt.mp e))⟩⟩, ⟨(r64 g17), (by decide : R64 12)⟩⟩ ?_
            by_cases c19 : 12 < (v1 - 48)
            · rw [if_pos c19] at H
              refine pt112 (s' := (18, [some (vj (v1 - 48)), none, some (vj 1), none, some (vj 12), none], [vi 0], (Wd S L (am_up F5 297 24 (v1 - 48)) G h))) (by decide) [1, 0] rfl ⟨trivial, ⟨y_cmp_r32, (y_cmp_gt.mpr c19)⟩⟩ ?_
              refine wp.fin (v := some (vi 0)) (by decide) am_m112 rfl ⟨_, rfl, Or.inr ⟨rfl, Or.inl rfl⟩, rfl⟩ ?_
              show wp 8 176 (105, [some (vr 297), some (vi v1), some (vi (F2 297 22))], [vi 0], (Wd S L (am_up F5 297 24 (v1 - 48)) G h)) _
              refine pt176 (s' := (118, [some (vr 297), some (vi v1), some (vi (F2 297 22))], [], (Wd S L (am_up (am_up (am_up F5 297 24 (v1 - 48)) 297 23 1) 297 22 (F2 297 22)) G h))) (by decide) [0, 0, 0, 0, 0, 0, 0] rfl ⟨⟨⟨trivial, ⟨(by decide : R32 0), (by decide : (0 : Int) = (0 : Int))⟩⟩, ⟨Nat.le_of_ble_eq_true rfl, rfl, fun _ => Or.inr rfl⟩⟩, ⟨Nat.le_of_ble_eq_true rfl, rfl, fun h => by cases h⟩⟩ ?_
              exact wp.fin (v := none) (by decide) am_m176 rfl ⟨rfl, rfl, rfl⟩ H
            · rw [if_neg c19] at H
              refine pt112 (s' := (18, [some (vj (v1 - 48)), none, some (vj 1), none, some (vj 12), none], [vi 1], (Wd S L (am_up F5 297 24 (v1 - 48)) G h))) (by decide) [0, 0, 0] rfl ⟨trivial, ⟨y_cmp_r32, (fun e => c19 (y_cmp_gt.mp e))⟩⟩ ?_
              refine wp.fin (v := some (vi 1)) (by decide) am_m112 rfl ⟨_, rfl, Or.inr ⟨rfl, Or.inr rfl⟩, rfl⟩ ?_
              show wp 8 176 (105, [some (vr 297), some (vi v1), some (vi (F2 297 22))], [vi 1], (Wd S L (am_up F5 297 24 (v1 - 48)) G h)) _
              refine pt176 (s' := (118, [some (vr 297), some (vi v1), some (vi (F2 297 22))], [], (Wd S L (am_up F5 297 24 (v1 - 48)) G h))) (by decide) [1] rfl ⟨trivial, ⟨(by decide : R32 1), (by decide : ¬ (1 : Int) = (0 : Int))⟩⟩ ?_
              exact wp.fin (v := none) (by decide) am_m176 rfl ⟨rfl, rfl, rfl⟩ H
        · rw [if_neg c16] at H
          refine pt112 (s' := (10, [some (vj (F5 302 (F5 297 22).toNat)), none, some (vj 48), none, some (vj 57), none], [vi (y_cmp (F5 302 (F5 297 22).toNat) 57)], (Wd S L (am_up F5 297 24 (v1 - 48)) G h))) (by decide) [0, 0, 0, 0] rfl ⟨⟨trivial, ⟨y_cmp_r32, (fun e => c16 (y_cmp_lt.mp e))⟩⟩, ⟨(r64 g15), (by decide : R64 57)⟩⟩ ?_
          by_cases c20 : 57 < (F5 302 (F5 297 22).toNat)
          · rw [if_pos c20] at H
            refine pt112 (s' := (18, [some (vj (F5 302 (F5 297 22).toNat)), none, some (vj 48), none, some (vj 57), none], [vi 0], (Wd S L (am_up F5 297 24 (v1 - 48)) G h))) (by decide) [1, 0] rfl ⟨trivial, ⟨y_cmp_r32, (y_cmp_gt.mpr c20)⟩⟩ ?_
            refine wp.fin (v := some (vi 0)) (by decide) am_m112 rfl ⟨_, rfl, Or.inr ⟨rfl, Or.inl rfl⟩, rfl⟩ ?_
            show wp 8 176 (54, [some (vr 297), some (vi v1), some (vi (F2 297 22))], [vi 0], (Wd S L (am_up F5 297 24 (v1 - 48)) G h)) _
            obtain ⟨g21, H⟩ := H
            refine pt176 (s' := (102, [some (vr 297), some (vi v1), some (vi (F2 297 22))], [vj 12, vj 1, vj (v1 - 48)], (Wd S L (am_up F5 297 24 (v1 - 48)) G h))) (by decide) [1, 0, 0, 0, 0, 0, 0, 0, 0] rfl ⟨⟨⟨⟨⟨trivial, ⟨(by decide : R32 0), (by decide : (0 : Int) = (0 : Int))⟩⟩, ⟨Nat.le_of_ble_eq_true rfl, rfl⟩⟩, ⟨g6, c7⟩⟩, ⟨Nat.le_of_ble_eq_true rfl, rfl⟩⟩, g21⟩ ?_
            refine wp.cl am_m176 rfl am_m112 6 [vj (v1 - 48), vj 1, vj 12] [] rfl (Nat.le_of_ble_eq_true rfl) (Nat.le_of_ble_eq_true rfl) rfl (Nat.le_of_ble_eq_true rfl) rfl (Nat.le_of_ble_eq_true rfl) (Nat.le_of_ble_eq_true rfl) trivial ?_
            refine pt112 (s' := (3, [some (vj (v1 - 48)), none, some (vj 1), none, some (vj 12), none], [vi (y_cmp (v1 - 48) 1)], (Wd S L (am_up F5 297 24 (v1 - 48)) G h))) (by decide) [0, 0, 0] rfl ⟨trivial, ⟨(r64 g21), (by decide : R64 1)⟩⟩ ?_
            by_cases c22 : (v1 - 48) < 1
            · rw [if_pos c22] at H
              refine pt112 (s' := (18, [some (vj (v1 - 48)), none, some (vj 1), none, some (vj 12), none], [vi 0], (Wd S L (am_up F5 297 24 (v1 - 48)) G h))) (by decide) [1, 0] rfl ⟨trivial, ⟨y_cmp_r32, (y_cmp_lt.mpr c22)⟩⟩ ?_
              refine wp.fin (v := some (vi 0)) (by decide) am_m112 rfl ⟨_, rfl, Or.inr ⟨rfl, Or.inl rfl⟩, rfl⟩ ?_
              show wp 8 176 (105, [some (vr 297), some (vi v1), some (vi (F2 297 22))], [vi 0], (Wd S L (am_up F5 297 24 (v1 - 48)) G h)) _
              refine pt176 (s' := (118, [some (vr 297), some (vi v1), some (vi (F2 297 22))], [], (Wd S L (am_up (am_up (am_up F5 297 24 (v1 - 48)) 297 23 1) 297 22 (F2 297 22)) G h))) (by decide) [0, 0, 0, 0, 0, 0, 0] rfl ⟨⟨⟨trivial, ⟨(by decide : R32 0), (by decide : (0 : Int) = (0 : Int))⟩⟩, ⟨Nat.le_of_ble_eq_true rfl, rfl, fun _ => Or.inr rfl⟩⟩, ⟨Nat.le_of_ble_eq_true rfl, rfl, fun h => by cases h⟩⟩ ?_
              exact wp.fin (v := none) (by decide) am_m176 rfl ⟨rfl, rfl, rfl⟩ H
            · rw [if_neg c22] at H
              refine pt112 (s' := (10, [some (vj (v1 - 48)), none, some (vj 1), none, some (vj 12), none], [vi (y_cmp (v1 - 48) 12)], (Wd S L (am_up F5 297 24 (v1 - 48)) G h))) (by decide) [0, 0, 0, 0] rfl ⟨⟨trivial, ⟨y_cmp_r32, (fun e => c22 (y_cmp_lt.mp e))⟩⟩, ⟨(r64 g21), (by decide : R64 12)⟩⟩ ?_
              by_cases c23 : 12 < (v1 - 48)
              · rw [if_pos c23] at H
                refine pt112 (s' := (18, [some (vj (v1 - 48)), none, some (vj 1), none, some (vj 12), none], [vi 0], (Wd S L (am_up F5 297 24 (v1 - 48)) G h))) (by decide) [1, 0] rfl ⟨trivial, ⟨y_cmp_r32, (y_cmp_gt.mpr c23)⟩⟩ ?_
                refine wp.fin (v := some (vi 0)) (by decide) am_m112 rfl ⟨_, rfl, Or.inr ⟨rfl, Or.inl rfl⟩, rfl⟩ ?_
                show wp 8 176 (105, [some (vr 297), some (vi v1), some (vi (F2 297 22))], [vi 0], (Wd S L (am_up F5 297 24 (v1 - 48)) G h)) _
                refine pt176 (s' := (118, [some (vr 297), some (vi v1), some (vi (F2 297 22))], [], (Wd S L (am_up (am_up (am_up F5 297 24 (v1 - 48)) 297 23 1) 297 22 (F2 297 22)) G h))) (by decide) [0, 0, 0, 0, 0, 0, 0] rfl ⟨⟨⟨trivial, ⟨(by decide : R32 0), (by decide : (0 : Int) = (0 : Int))⟩⟩, ⟨Nat.le_of_ble_eq_true rfl, rfl, fun _ => Or.inr rfl⟩⟩, ⟨Nat.le_of_ble_eq_true rfl, rfl, fun h => by cases h⟩⟩ ?_
                exact wp.fin (v := none) (by decide) am_m176 rfl ⟨rfl, rfl, rfl⟩ H
              · rw [if_neg c23] at H
                refine pt112 (s' := (18, [some (vj (v1 - 48)), none, some (vj 1), none, some (vj 12), none], [vi 1], (Wd S L (am_up F5 297 24 (v1 - 48)) G h))) (by decide) [0, 0, 0] rfl ⟨trivial, ⟨y_cmp_r32, (fun e => c23 (y_cmp_gt.mp e))⟩⟩ ?_
                refine wp.fin (v := some (vi 1)) (by decide) am_m112 rfl ⟨_, rfl, Or.inr ⟨rfl, Or.inr rfl⟩, rfl⟩ ?_
                show wp 8 176 (105, [some (vr 297), some (vi v1), some (vi (F2 297 22))], [vi 1], (Wd S L (am_up F5 297 24 (v1 - 48)) G h)) _
                refine pt176 (s' := (118, [some (vr 297), some (vi v1), some (vi (F2 297 22))], [], (Wd S L (am_up F5 297 24 (v1 - 48)) G h))) (by decide) [1] rfl ⟨trivial, ⟨(by decide : R32 1), (by decide : ¬ (1 : Int) = (0 : Int))⟩⟩ ?_
                exact wp.fin (v := none) (by decide) am_m176 rfl ⟨rfl, rfl, rfl⟩ H
          · rw [if_neg c20] at H
            refine pt112 (s' := (18, [some (vj (F5 302 (F5 297 22).toNat)), none, some (vj 48), none, some (vj 57), none], [vi 1], (Wd S L (am_up F5 297 24 (v1 - 48)) G h))) (by decide) [0, 0, 0] rfl ⟨trivial, ⟨y_cmp_r32, (fun e => c20 (y_cmp_gt.mp e))⟩⟩ ?_
            refine wp.fin (v := some (vi 1)) (by decide) am_m112 rfl ⟨_, rfl, Or.inr ⟨rfl, Or.inr rfl⟩, rfl⟩ ?_
            show wp 8 176 (54, [some (vr 297), some (vi v1), some (vi (F2 297 22))], [vi 1], (Wd S L (am_up F5 297 24 (v1 - 48)) G h)) _
            refine pt176 (s' := (66, [some (vr 297), some (vi v1), some (vi (F2 297 22))], [vr 297, vi (10 * (v1 - 48)), vr 297], (Wd S L (am_up F5 297 24 (v1 - 48)) G h))) (by decide) [0, 0, 0, 0, 0, 0, 0] rfl ⟨⟨trivial, ⟨(by decide : R32 1), (by decide : ¬ (1 : Int) = (0 : Int))⟩⟩, ⟨Nat.le_of_ble_eq_true rfl, rfl⟩⟩ ?_
            refine wp.cl am_m176 rfl am_m173 6 [vr 297] [vi (10 * (v1 - 48)), vr 297] rfl (Nat.le_of_ble_eq_true rfl) (Nat.le_of_ble_eq_true rfl) rfl (Nat.le_of_ble_eq_true rfl) rfl (Nat.le_of_ble_eq_true rfl) (Nat.le_of_ble_eq_true rfl) ⟨_, _, rfl, Nat.le_of_ble_eq_true rfl, rfl⟩ ?_
            refine pt173 (s' := (24, [some (vr 297)], [vi (F5 302 (F5 297 22).toNat)], (Wd S L (am_up F5 297 24 (v1 - 48)) G h))) (by decide) [0, 0, 0, 0, 0, 0, 302, 0, 0, 0, 0] rfl ⟨⟨⟨⟨⟨⟨trivial, ⟨Nat.le_of_ble_eq_true rfl, rfl⟩⟩, ⟨Nat.le_of_ble_eq_true rfl, rfl⟩⟩, ⟨⟨g8, g9⟩, c10⟩⟩, ⟨Nat.le_of_ble_eq_true rfl, rfl, hh _ _ _ rfl⟩⟩, ⟨Nat.le_of_ble_eq_true rfl, rfl⟩⟩, (ix ⟨Nat.le_of_ble_eq_true rfl, rfl⟩ g14)⟩ ?_
            refine wp.fin (v := some (vi (F5 302 (F5 297 22).toNat))) (by decide) am_m173 rfl ⟨_, rfl, Or.inl rfl, rfl⟩ ?_
            show wp 8 176 (69, [some (vr 297), some (vi v1), some (vi (F2 297 22))], [vi (F5 302 (F5 297 22).toNat), vi (10 * (v1 - 48)), vr 297], (Wd S L (am_up F5 297 24 (v1 - 48)) G h)) _
            obtain ⟨g24, H⟩ := H
            refine pt176 (s' := (102, [some (vr 297), some (vi v1), some (vi (F2 297 22))], [vj 12, vj 1, vj (((10 * (v1 - 48)) + (F5 302 (F5 297 22).toNat)) - 48)], (Wd S L (am_up (am_up (am_up F5 297 24 (v1 - 48)) 297 24 (((10 * (v1 - 48)) + (F5 302 (F5 297 22).toNat)) - 48)) 297 22 ((F5 297 22) + 1)) G h))) (by decide) [0, 0, 0, 0, 0, 0, 0, 0, 0, 0, 0, 0, 0, 0, 0, 0, 0, 0] rfl ⟨⟨⟨⟨⟨⟨⟨trivial, ⟨Nat.le_of_ble_eq_true rfl, rfl, fun h => by cases h⟩⟩, ⟨Nat.le_of_ble_eq_true rfl, rfl⟩⟩, ⟨Nat.le_of_ble_eq_true rfl, rfl, fun h => by cases h⟩⟩, ⟨Nat.le_of_ble_eq_true rfl, rfl⟩⟩, ⟨g6, c7⟩⟩, ⟨Nat.le_of_ble_eq_true rfl, rfl⟩⟩, g24⟩ ?_
            refine wp.cl am_m176 rfl am_m112 6 [vj (((10 * (v1 - 48)) + (F5 302 (F5 297 22).toNat)) - 48), vj 1, vj 12] [] rfl (Nat.le_of_ble_eq_true rfl) (Nat.le_of_ble_eq_true rfl) rfl (Nat.le_of_ble_eq_true rfl) rfl (Nat.le_of_ble_eq_true rfl) (Nat.le_of_ble_eq_true rfl) trivial ?_
            refine pt112 (s' := (3, [some (vj (((10 * (v1 - 48)) + (F5 302 (F5 297 22).toNat)) - 48)), none, some (vj 1), none, some (vj 12), none], [vi (y_cmp (((10 * (v1 - 48)) + (F5 302 (F5 297 22).toNat)) - 48) 1)], (Wd S L (am_up (am_up (am_up F5 297 24 (v1 - 48)) 297 24 (((10 * (v1 - 48)) + (F5 302 (F5 297 22).toNat)) - 48)) 297 22 ((F5 297 22) + 1)) G h))) (by decide) [0, 0, 0] rfl ⟨trivial, ⟨(r64 g24), (by decide : R64 1)⟩⟩ ?_
            by_cases c25 : (((10 * (v1 - 48)) + (F5 302 (F5 297 22).toNat)) - 48) < 1
            · rw [if_pos c25] at H
              refine pt112 (s' := (18, [some (vj (((10 * (v1 - 48)) + (F5 302 (F5 297 22).toNat)) - 48)), none, some (vj 1), none, some (vj 12), none], [vi 0], (Wd S L (am_up (am_up (am_up F5 297 24 (v1 - 48)) 297 24 (((10 * (v1 - 48)) + (F5 302 (F5 297 22).toNat)) - 48)) 297 22 ((F5 297 22) + 1)) G h))) (by decide) [1, 0] rfl ⟨trivial, ⟨y_cmp_r32, (y_cmp_lt.mpr c25)⟩⟩ ?_
              refine wp.fin (v := some (vi 0)) (by decide) am_m112 rfl ⟨_, rfl, Or.inr ⟨rfl, Or.inl rfl⟩, rfl⟩ ?_
              show wp 8 176 (105, [some (vr 297), some (vi v1), some (vi (F2 297 22))], [vi 0], (Wd S L (am_up (am_up (am_up F5 297 24 (v1 - 48)) 297 24 (((10 * (v1 - 48)) + (F5 302 (F5 297 22).toNat)) - 48)) 297 22 ((F5 297 22) + 1)) G h)) _
              refine pt176 (s' := (118, [some (vr 297), some (vi v1), some (vi (F2 297 22))], [], (Wd S L (am_up (am_up (am_up (am_up (am_up F5 297 24 (v1 - 48)) 297 24 (((10 * (v1 - 48)) + (F5 302 (F5 297 22).toNat)) - 48)) 297 22 ((F5 297 22) + 1)) 297 23 1) 297 22 (F2 297 22)) G h))) (by decide) [0, 0, 0, 0, 0, 0, 0] rfl ⟨⟨⟨trivial, ⟨(by decide : R32 0), (by decide : (0 : Int) = (0 : Int))⟩⟩, ⟨Nat.le_of_ble_eq_true rfl, rfl, fun _ => Or.inr rfl⟩⟩, ⟨Nat.le_of_ble_eq_true rfl, rfl, fun h => by cases h⟩⟩ ?_
              exact wp.fin (v := none) (by decide) am_m176 rfl ⟨rfl, rfl, rfl⟩ H
            · rw [if_neg c25] at H
              refine pt112 (s' := (10, [some (vj (((10 * (v1 - 48)) + (F5 302 (F5 297 22).toNat)) - 48)), none, some (vj 1), none, some (vj 12), none], [vi (y_cmp (((10 * (v1 - 48)) + (F5 302 (F5 297 22).toNat)) - 48) 12)], (Wd S L (am_up (am_up (am_up F5 297 24 (v1 - 48)) 297 24 (((10 * (v1 - 48)) + (F5 302 (F5 297 22).toNat)) - 48)) 297 22 ((F5 297 22) + 1)) G h))) (by decide) [0, 0, 0, 0] rfl ⟨⟨trivial, ⟨y_cmp_r32, (fun e => c25 (y_cmp_lt.mp e))⟩⟩, ⟨(r64 g24), (by decide : R64 12)⟩⟩ ?_
              by_cases c26 : 12 < (((10 * (v1 - 48)) + (F5 302 (F5 297 22).toNat)) - 48)
              · rw [if_pos c26] at H
                refine pt112 (s' := (18, [some (vj (((10 * (v1 - 48)) + (F5 302 (F5 297 22).toNat)) - 48)), none, some (vj 1), none, some (vj 12), none], [vi 0], (Wd S L (am_up (am_up (am_up F5 297 24 (v1 - 48)) 297 24 (((10 * (v1 - 48)) + (F5 302 (F5 297 22).toNat)) - 48)) 297 22 ((F5 297 22) + 1)) G h))) (by decide) [1, 0] rfl ⟨trivial, ⟨y_cmp_r32, (y_cmp_gt.mpr c26)⟩⟩ ?_
                refine wp.fin (v := some (vi 0)) (by decide) am_m112 rfl ⟨_, rfl, Or.inr ⟨rfl, Or.inl rfl⟩, rfl⟩ ?_
                show wp 8 176 (105, [some (vr 297), some (vi v1), some (vi (F2 297 22))], [vi 0], (Wd S L (am_up (am_up (am_up F5 297 24 (v1 - 48)) 297 24 (((10 * (v1 - 48)) + (F5 302 (F5 297 22).toNat)) - 48)) 297 22 ((F5 297 22) + 1)) G h)) _
                refine pt176 (s' := (118, [some (vr 297), some (vi v1), some (vi (F2 297 22))], [], (Wd S L (am_up (am_up (am_up (am_up (am_up F5 297 24 (v1 - 48)) 297 24 (((10 * (v1 - 48)) + (F5 302 (F5 297 22).toNat)) - 48)) 297 22 ((F5 297 22) + 1)) 297 23 1) 297 22 (F2 297 22)) G h))) (by decide) [0, 0, 0, 0, 0, 0, 0] rfl ⟨⟨⟨trivial, ⟨(by decide : R32 0), (by decide : (0 : Int) = (0 : Int))⟩⟩, ⟨Nat.le_of_ble_eq_true rfl, rfl, fun _ => Or.inr rfl⟩⟩, ⟨Nat.le_of_ble_eq_true rfl, rfl, fun h => by cases h⟩⟩ ?_
                exact wp.fin (v := none) (by decide) am_m176 rfl ⟨rfl, rfl, rfl⟩ H
              · rw [if_neg c26] at H
                refine pt112 (s' := (18, [some (vj (((10 * (v1 - 48)) + (F5 302 (F5 297 22).toNat)) - 48)), none, some (vj 1), none, some (vj 12), none], [vi 1], (Wd S L (am_up (am_up (am_up F5 297 24 (v1 - 48)) 297 24 (((10 * (v1 - 48)) + (F5 302 (F5 297 22).toNat)) - 48)) 297 22 ((F5 297 22) + 1)) G h))) (by decide) [0, 0, 0] rfl ⟨trivial, ⟨y_cmp_r32, (fun e => c26 (y_cmp_gt.mp e))⟩⟩ ?_
                refine wp.fin (v := some (vi 1)) (by decide) am_m112 rfl ⟨_, rfl, Or.inr ⟨rfl, Or.inr rfl⟩, rfl⟩ ?_
                show wp 8 176 (105, [some (vr 297), some (vi v1), some (vi (F2 297 22))], [vi 1], (Wd S L (am_up (am_up (am_up F5 297 24 (v1 - 48)) 297 24 (((10 * (v1 - 48)) + (F5 302 (F5 297 22).toNat)) - 48)) 297 22 ((F5 297 22) + 1)) G h)) _
                refine pt176 (s' := (118, [some (vr 297), some (vi v1), some (vi (F2 297 22))], [], (Wd S L (am_up (am_up (am_up F5 297 24 (v1 - 48)) 297 24 (((10 * (v1 - 48)) + (F5 302 (F5 297 22).toNat)) - 48)) 297 22 ((F5 297 22) + 1)) G h))) (by decide) [1] rfl ⟨trivial, ⟨(by decide : R32 1), (by decide : ¬ (1 : Int) = (0 : Int))⟩⟩ ?_
                exact wp.fin (v := none) (by decide) am_m176 rfl ⟨rfl, rfl, rfl⟩ H
    · rw [if_neg c7] at H
      refine pt176 (s' := (118, [some (vr 297), some (vi v1), some (vi (F2 297 22))], [], (Wd S L (am_up F5 297 24 (v1 - 48)) G h))) (by decide) [1, 0, 0, 1] rfl ⟨⟨⟨trivial, ⟨g6, c7⟩⟩, ⟨Nat.le_of_ble_eq_true rfl, rfl⟩⟩, ⟨g6, c7⟩⟩ ?_
      exact wp.fin (v := none) (by decide) am_m176 rfl ⟨rfl, rfl, rfl⟩ H
  · rw [if_neg c4] at H
    refine pt112 (s' := (10, [some (vj v1), none, some (vj 48), none, some (vj 57), none], [vi (y_cmp v1 57)], (Wd S L F2 G h))) (by decide) [0, 0, 0, 0] rfl ⟨⟨trivial, ⟨y_cmp_r32, (fun e => c4 (y_cmp_lt.mp e))⟩⟩, ⟨(r64 g3), (by decide : R64 57)⟩⟩ ?_
    by_cases c27 : 57 < v1
    · rw [if_pos c27] at H
      refine pt112 (s' := (18, [some (vj v1), none, some (vj 48), none, some (vj 57), none], [vi 0], (Wd S L F2 G h))) (by decide) [1, 0] rfl ⟨trivial, ⟨y_cmp_r32, (y_cmp_gt.mpr c27)⟩⟩ ?_
      refine wp.fin (v := some (vi 0)) (by decide) am_m112 rfl ⟨_, rfl, Or.inr ⟨rfl, Or.inl rfl⟩, rfl⟩ ?_
      show wp 8 176 (22, [some (vr 297), some (vi v1), some (vi (F2 297 22))], [vi 0, vr 297], (Wd S L F2 G h)) _
      refine wp.cl am_m176 rfl am_m174 6 [vr 297, vi 0] [] rfl (Nat.le_of_ble_eq_true rfl) (Nat.le_of_ble_eq_true rfl) rfl (Nat.le_of_ble_eq_true rfl) rfl (Nat.le_of_ble_eq_true rfl) (Nat.le_of_ble_eq_true rfl) ⟨_, _, rfl, Nat.le_of_ble_eq_true rfl, rfl⟩ ?_
      refine wp.mono H ?_
      rintro v w1 ⟨F28, rfl, rfl, H⟩
      show wp 8 176 (25, [some (vr 297), some (vi v1), some (vi (F2 297 22))], [], (Wd S L F28 G h)) _
      obtain ⟨g29, H⟩ := H
      refine pt176 (s' := (37, [some (vr 297), some (vi v1), some (vi (F2 297 22))], [vi (F28 297 23)], (Wd S L (am_up F28 297 24 (v1 - 48)) G h))) (by decide) [0, 0, 0, 0, 0, 0, 0] rfl ⟨⟨trivial, ⟨Nat.le_of_ble_eq_true rfl, rfl, fun h => by cases h⟩⟩, ⟨Nat.le_of_ble_eq_true rfl, rfl⟩⟩ ?_
      by_cases c30 : (F28 297 23) = 0
      · rw [if_pos c30] at H
        refine pt176 (s' := (41, [some (vr 297), some (vi v1), some (vi (F2 297 22))], [vr 297], (Wd S L (am_up F28 297 24 (v1 - 48)) G h))) (by decide) [0, 0] rfl ⟨trivial, ⟨g29, c30⟩⟩ ?_
        refine wp.cl am_m176 rfl am_m173 6 [vr 297] [] rfl (Nat.le_of_ble_eq_true rfl) (Nat.le_of_ble_eq_true rfl) rfl (Nat.le_of_ble_eq_true rfl) rfl (Nat.le_of_ble_eq_true rfl) (Nat.le_of_ble_eq_true rfl) ⟨_, _, rfl, Nat.le_of_ble_eq_true rfl, rfl⟩ ?_
        obtain ⟨g31, H⟩ := H
        obtain ⟨g32, H⟩ := H
        refine pt173 (s' := (8, [some (vr 297)], [vi (F28 297 7), vi (F28 297 22)], (Wd S L (am_up F28 297 24 (v1 - 48)) G h))) (by decide) [0, 0, 0, 0] rfl ⟨⟨trivial, ⟨Nat.le_of_ble_eq_true rfl, rfl⟩⟩, ⟨Nat.le_of_ble_eq_true rfl, rfl⟩⟩ ?_
        by_cases c33 : (F28 297 7) ≤ (F28 297 22)
        · rw [if_pos c33] at H
          refine pt173 (s' := (24, [some (vr 297)], [vi 0], (Wd S L (am_up F28 297 24 (v1 - 48)) G h))) (by decide) [1, 0] rfl ⟨trivial, ⟨⟨g31, g32⟩, c33⟩⟩ ?_
          refine wp.fin (v := some (vi 0)) (by decide) am_m173 rfl ⟨_, rfl, Or.inl rfl, rfl⟩ ?_
          show wp 8 176 (44, [some (vr 297), some (vi v1), some (vi (F2 297 22))], [vi 0], (Wd S L (am_up F28 297 24 (v1 - 48)) G h)) _
          refine pt176 (s' := (51, [some (vr 297), some (vi v1), some (vi (F2 297 22))], [vj 57, vj 48, vj 0], (Wd S L (am_up F28 297 24 (v1 - 48)) G h))) (by decide) [0, 0, 0] rfl ⟨trivial, (by decide : R32 0)⟩ ?_
          refine wp.cl am_m176 rfl am_m112 6 [vj 0, vj 48, vj 57] [] rfl (Nat.le_of_ble_eq_true rfl) (Nat.le_of_ble_eq_true rfl) rfl (Nat.le_of_ble_eq_true rfl) rfl (Nat.le_of_ble_eq_true rfl) (Nat.le_of_ble_eq_true rfl) trivial ?_
          refine pt112 (s' := (18, [some (vj 0), none, some (vj 48), none, some (vj 57), none], [vi 0], (Wd S L (am_up F28 297 24 (v1 - 48)) G h))) (by decide) [0, 0, 0, 1, 0] rfl ⟨⟨trivial, ⟨(by decide : R64 0), (by decide : R64 48)⟩⟩, ⟨y_cmp_r32, (by decide : ((y_cmp 0 48) : Int) < (0 : Int))⟩⟩ ?_
          refine wp.fin (v := some (vi 0)) (by decide) am_m112 rfl ⟨_, rfl, Or.inr ⟨rfl, Or.inl rfl⟩, rfl⟩ ?_
          show wp 8 176 (54, [some (vr 297), some (vi v1), some (vi (F2 297 22))], [vi 0], (Wd S L (am_up F28 297 24 (v1 - 48)) G h)) _
          obtain ⟨g34, H⟩ := H
          refine pt176 (s' := (102, [some (vr 297), some (vi v1), some (vi (F2 297 22))], [vj 12, vj 1, vj (v1 - 48)], (Wd S L (am_up F28 297 24 (v1 - 48)) G h))) (by decide) [1, 0, 0, 0, 0, 0, 0, 0, 0] rfl ⟨⟨⟨⟨⟨trivial, ⟨(by decide : R32 0), (by decide : (0 : Int) = (0 : Int))⟩⟩, ⟨Nat.le_of_ble_eq_true rfl, rfl⟩⟩, ⟨g29, c30⟩⟩, ⟨Nat.le_of_ble_eq_true rfl, rfl⟩⟩, g34⟩ ?_
          refine wp.cl am_m176 rfl am_m112 6 [vj (v1 - 48), vj 1, vj 12] [] rfl (Nat.le_of_ble_eq_true rfl) (Nat.le_of_ble_eq_true rfl) rfl (Nat.le_of_ble_eq_true rfl) rfl (Nat.le_of_ble_eq_true rfl) (Nat.le_of_ble_eq_true rfl) trivial ?_
          refine pt112 (s' := (3, [some (vj (v1 - 48)), none, some (vj 1), none, some (vj 12), none], [vi (y_cmp (v1 - 48) 1)], (Wd S L (am_up F28 297 24 (v1 - 48)) G h))) (by decide) [0, 0, 0] rfl ⟨trivial, ⟨(r64 g34), (by decide : R64 1)⟩⟩ ?_
          by_cases c35 : (v1 - 48) < 1
          · rw [if_pos c35] at H
            refine pt112 (s' := (18, [some (vj (v1 - 48)), none, some (vj 1), none, some (vj 12), none], [vi 0], (Wd S L (am_up F28 297 24 (v1 - 48)) G h))) (by decide) [1, 0] rfl ⟨trivial, ⟨y_cmp_r32, (y_cmp_lt.mpr c35)⟩⟩ ?_
            refine wp.fin (v := some (vi 0)) (by decide) am_m112 rfl ⟨_, rfl, Or.inr ⟨rfl, Or.inl rfl⟩, rfl⟩ ?_
            show wp 8 176 (105, [some (vr 297), some (vi v1), some (vi (F2 297 22))], [vi 0], (Wd S L (am_up F28 297 24 (v1 - 48)) G h)) _
            refine pt176 (s' := (118, [some (vr 297), some (vi v1), some (vi (F2 297 22))], [], (Wd S L (am_up (am_up (am_up F28 297 24 (v1 - 48)) 297 23 1) 297 22 (F2 297 22)) G h))) (by decide) [0, 0, 0, 0, 0, 0, 0] rfl ⟨⟨⟨trivial, ⟨(by decide : R32 0), (by decide : (0 : Int) = (0 : Int))⟩⟩, ⟨Nat.le_of_ble_eq_true rfl, rfl, fun _ => Or.inr rfl⟩⟩, ⟨Nat.le_of_ble_eq_true rfl, rfl, fun h => by cases h⟩⟩ ?_
            exact wp.fin (v := none) (by decide) am_m176 rfl ⟨rfl, rfl, rfl⟩ H
          · rw [if_neg c35] at H
            refine pt112 (s' := (10, [some (vj (v1 - 48)), none, some (vj 1), none, some (vj 12), none], [vi (y_cmp (v1 - 48) 12)], (Wd S L (am_up F28 297 24 (v1 - 48)) G h))) (by decide) [0, 0, 0, 0] rfl ⟨⟨trivial, ⟨y_cmp_r32, (fun e => c35 (y_cmp_lt.mp e))⟩⟩, ⟨(r64 g34), (by decide : R64 12)⟩⟩ ?_
            by_cases c36 : 12 < (v1 - 48)
            · rw [if_pos c36] at H
              refine pt112 (s' := (18, [some (vj (v1 - 48)), none, some (vj 1), none, some (vj 12), none], [vi 0], (Wd S L (am_up F28 297 24 (v1 - 48)) G h))) (by decide) [1, 0] rfl ⟨trivial, ⟨y_cmp_r32, (y_cmp_gt.mpr c36)⟩⟩ ?_
              refine wp.fin (v := some (vi 0)) (by decide) am_m112 rfl ⟨_, rfl, Or.inr ⟨rfl, Or.inl rfl⟩, rfl⟩ ?_
              show wp 8 176 (105, [some (vr 297), some (vi v1), some (vi (F2 297 22))], [vi 0], (Wd S L (am_up F28 297 24 (v1 - 48)) G h)) _
              refine pt176 (s' := (118, [some (vr 297), some (vi v1), some (vi (F2 297 22))], [], (Wd S L (am_up (am_up (am_up F28 297 24 (v1 - 48)) 297 23 1) 297 22 (F2 297 22)) G h))) (by decide) [0, 0, 0, 0, 0, 0, 0] rfl ⟨⟨⟨trivial, ⟨(by decide : R32 0), (by decide : (0 : Int) = (0 : Int))⟩⟩, ⟨Nat.le_of_ble_eq_true rfl, rfl, fun _ => Or.inr rfl⟩⟩, ⟨Nat.le_of_ble_eq_true rfl, rfl, fun h => by cases h⟩⟩ ?_
              exact wp.fin (v := none) (by decide) am_m176 rfl ⟨rfl, rfl, rfl⟩ H
            · rw [if_neg c36] at H
              refine pt112 (s' := (18, [some (vj (v1 - 48)), none, some (vj 1), none, some (vj 12), none], [vi 1], (Wd S L (am_up F28 297 24 (v1 - 48)) G h))) (by decide) [0, 0, 0] rfl ⟨trivial, ⟨y_cmp_r32, (fun e => c36 (y_cmp_gt.mp e))⟩⟩ ?_
              refine wp.fin (v := some (vi 1)) (by decide) am_m112 rfl ⟨_, rfl, Or.inr ⟨rfl, Or.inr rfl⟩, rfl⟩ ?_
              show wp 8 176 (105, [some (vr 297), some (vi v1), some (vi (F2 297 22))], [vi 1], (Wd S L (am_up F28 297 24 (v1 - 48)) G h)) _
              refine pt176 (s' := (118, [some (vr 297), some (vi v1), some (vi (F2 297 22))], [], (Wd S L (am_up F28 297 24 (v1 - 48)) G h))) (by decide) [1] rfl ⟨trivial, ⟨(by decide : R32 1), (by decide : ¬ (1 : Int) = (0 : Int))⟩⟩ ?_
              exact wp.fin (v := none) (by decide) am_m176 rfl ⟨rfl, rfl, rfl⟩ H
        · rw [if_neg c33] at H
          obtain ⟨g37, H⟩ := H
          refine pt173 (s' := (24, [some (vr 297)], [vi (F28 302 (F28 297 22).toNat)], (Wd S L (am_up F28 297 24 (v1 - 48)) G h))) (by decide) [0, 0, 302, 0, 0, 0, 0] rfl ⟨⟨⟨⟨trivial, ⟨⟨g31, g32⟩, c33⟩⟩, ⟨Nat.le_of_ble_eq_true rfl, rfl, hh _ _ _ rfl⟩⟩, ⟨Nat.le_of_ble_eq_true rfl, rfl⟩⟩, (ix ⟨Nat.le_of_ble_eq_true rfl, rfl⟩ g37)⟩ ?_
          refine wp.fin (v := some (vi (F28 302 (F28 297 22).toNat))) (by decide) am_m173 rfl ⟨_, rfl, Or.inl rfl, rfl⟩ ?_
          show wp 8 176 (44, [some (vr 297), some (vi v1), some (vi (F2 297 22))], [vi (F28 302 (F28 297 22).toNat)], (Wd S L (am_up F28 297 24 (v1 - 48)) G h)) _
          obtain ⟨g38, H⟩ := H
          refine pt176 (s' := (51, [some (vr 297), some (vi v1), some (vi (F2 297 22))], [vj 57, vj 48, vj (F28 302 (F28 297 22).toNat)], (Wd S L (am_up F28 297 24 (v1 - 48)) G h))) (by decide) [0, 0, 0] rfl ⟨trivial, g38⟩ ?_
          refine wp.cl am_m176 rfl am_m112 6 [vj (F28 302 (F28 297 22).toNat), vj 48, vj 57] [] rfl (Nat.le_of_ble_eq_true rfl) (Nat.le_of_ble_eq_true rfl) rfl (Nat.le_of_ble_eq_true rfl) rfl (Nat.le_of_ble_eq_true rfl) (Nat.le_of_ble_eq_true rfl) trivial ?_
          refine pt112 (s' := (3, [some (vj (F28 302 (F28 297 22).toNat)), none, some (vj 48), none, some (vj 57), none], [vi (y_cmp (F28 302 (F28 297 22).toNat) 48)], (Wd S L (am_up F28 297 24 (v1 - 48)) G h))) (by decide) [0, 0, 0] rfl ⟨trivial, ⟨(r64 g38), (by decide : R64 48)⟩⟩ ?_
          by_cases c39 : (F28 302 (F28 297 22).toNat) < 48
          · rw [if_pos c39] at H
            refine pt112 (s' := (18, [some (vj (F28 302 (F28 297 22).toNat)), none, some (vj 48), none, some (vj 57), none], [vi 0], (Wd S L (am_up F28 297 24 (v1 - 48)) G h))) (by decide) [1, 0] rfl ⟨trivial, ⟨y_cmp_r32, (y_cmp_lt.mpr c39)⟩⟩ ?_
            refine wp.fin (v := some (vi 0)) (by decide) am_m112 rfl ⟨_, rfl, Or.inr ⟨rfl, Or.inl rfl⟩, rfl⟩ ?_
            show wp 8 176 (54, [some (vr 297), some (vi v1), some (vi (F2 297 22))], [vi 0], (Wd S L (am_up F28 297 24 (v1 - 48)) G h)) _
            obtain ⟨g40, H⟩ := H
            refine pt176 (s' := (102, [some (vr 297), some (vi v1), some (vi (F2 297 22))], [vj 12, vj 1, vj (v1 - 48)], (Wd S L (am_up F28 297 24 (v1 - 48)) G h))) (by decide) [1, 0, 0, 0, 0, 0, 0, 0, 0] rfl ⟨⟨⟨⟨⟨trivial, ⟨(by decide : R32 0), (by decide : (0 : Int) = (0 : Int))⟩⟩, ⟨Nat.le_of_ble_eq_true rfl, rfl⟩⟩, ⟨g29, c30⟩⟩, ⟨Nat.le_of_ble_eq_true rfl, rfl⟩⟩, g40⟩ ?_
            refine wp.cl am_m176 rfl am_m112 6 [vj (v1 - 48), vj 1, vj 12] [] rfl (Nat.le_of_ble_eq_true rfl) (Nat.le_of_ble_eq_true rfl) rfl (Nat.le_of_ble_eq_true rfl) rfl (Nat.le_of_ble_eq_true rfl) (Nat.le_of_ble_eq_true rfl) trivial ?_
            refine pt112 (s' := (3, [some (vj (v1 - 48)), none, some (vj 1), none, some (vj 12), none], [vi (y_cmp (v1 - 48) 1)], (Wd S L (am_up F28 297 24 (v1 - 48)) G h))) (by decide) [0, 0, 0] rfl ⟨trivial, ⟨(r64 g40), (by decide : R64 1)⟩⟩ ?_
            by_cases c41 : (v1 - 48) < 1
            · rw [if_pos c41] at H
              refine pt112 (s' := (18, [some (vj (v1 - 48)), none, some (vj 1), none, some (vj 12), none], [vi 0], (Wd S L (am_up F28 297 24 (v1 - 48)) G h))) (by decide) [1, 0] rfl ⟨trivial, ⟨y_cmp_r32, (y_cmp_lt.mpr c41)⟩⟩ ?_
              refine wp.fin (v := some (vi 0)) (by decide) am_m112 rfl ⟨_, rfl, Or.inr ⟨rfl, Or.inl rfl⟩, rfl⟩ ?_
              show wp 8 176 (105, [some (vr 297), some (vi v1), some (vi (F2 297 22))], [vi 0], (Wd S L (am_up F28 297 24 (v1 - 48)) G h)) _
              refine pt176 (s' := (118, [some (vr 297), some (vi v1), some (vi (F2 297 22))], [], (Wd S L (am_up (am_up (am_up F28 297 24 (v1 - 48)) 297 23 1) 297 22 (F2 297 22)) G h))) (by decide) [0, 0, 0, 0, 0, 0, 0] rfl ⟨⟨⟨trivial, ⟨(by decide : R32 0), (by decide : (0 : Int) = (0 : Int))⟩⟩, ⟨Nat.le_of_ble_eq_true rfl, rfl, fun _ => Or.inr rfl⟩⟩, ⟨Nat.le_of_ble_eq_true rfl, rfl, fun h => by cases h⟩⟩ ?_
              exact wp.fin (v := none) (by decide) am_m176 rfl ⟨rfl, rfl, rfl⟩ H
            · rw [if_neg c41] at H
              refine pt112 (s' := (10, [some (vj (v1 - 48)), none, some (vj 1), none, some (vj 12), none], [vi (y_cmp (v1 - 48) 12)], (Wd S L (am_up F28 297 24 (v1 - 48)) G h))) (by decide) [0, 0, 0, 0] rfl ⟨⟨trivial, ⟨y_cmp_r32, (fun e => c41 (y_cmp_lt.mp e))⟩⟩, ⟨(r64 g40), (by decide : R64 12)⟩⟩ ?_
              by_cases c42 : 12 < (v1 - 48)
              · rw [if_pos c42] at H
                refine pt112 (s' := (18, [some (vj (v1 - 48)), none, some (vj 1), none, some (vj 12), none], [vi 0], (Wd S L (am_up F28 297 24 (v1 - 48)) G h))) (by decide) [1, 0] rfl ⟨trivial, ⟨y_cmp_r32, (y_cmp_gt.mpr c42)⟩⟩ ?_
                refine wp.fin (v := some (vi 0)) (by decide) am_m112 rfl ⟨_, rfl, Or.inr ⟨rfl, Or.inl rfl⟩, rfl⟩ ?_
                show wp 8 176 (105, [some (vr 297), some (vi v1), some (vi (F2 297 22))], [vi 0], (Wd S L (am_up F28 297 24 (v1 - 48)) G h)) _
                refine pt176 (s' := (118, [some (vr 297), some (vi v1), some (vi (F2 297 22))], [], (Wd S L (am_up (am_up (am_up F28 297 24 (v1 - 48)) 297 23 1) 297 22 (F2 297 22)) G h))) (by decide) [0, 0, 0, 0, 0, 0, 0] rfl ⟨⟨⟨trivial, ⟨(by decide : R32 0), (by decide : (0 : Int) = (0 : Int))⟩⟩, ⟨Nat.le_of_ble_eq_true rfl, rfl, fun _ => Or.inr rfl⟩⟩, ⟨Nat.le_of_ble_eq_true rfl, rfl, fun h => by cases h⟩⟩ ?_
                exact wp.fin (v := none) (by decide) am_m176 rfl ⟨rfl, rfl, rfl⟩ H
              · rw [if_neg c42] at H
                refine pt112 (s' := (18, [some (vj (v1 - 48)), none, some (vj 1), none, some (vj 12), none], [vi 1], (Wd S L (am_up F28 297 24 (v1 - 48)) G h))) (by decide) [0, 0, 0] rfl ⟨trivial, ⟨y_cmp_r32, (fun e => c42 (y_cmp_gt.mp e))⟩⟩ ?_
                refine wp.fin (v := some (vi 1)) (by decide) am_m112 rfl ⟨_, rfl, Or.inr ⟨rfl, Or.inr rfl⟩, rfl⟩ ?_
                show wp 8 176 (105, [some (vr 297), some (vi v1), some (vi (F2 297 22))], [vi 1], (Wd S L (am_up F28 297 24 (v1 - 48)) G h)) _
                refine pt176 (s' := (118, [some (vr 297), some (vi v1), some (vi (F2 297 22))], [], (Wd S L (am_up F28 297 24 (v1 - 48)) G h))) (by decide) [1] rfl ⟨trivial, ⟨(by decide : R32 1), (by decide : ¬ (1 : Int) = (0 : Int))⟩⟩ ?_
                exact wp.fin (v := none) (by decide) am_m176 rfl ⟨rfl, rfl, rfl⟩ H
          · rw [if_neg c39] at H
            refine pt112 (s' := (10, [some (vj (F28 302 (F28 297 22).toNat)), none, some (vj 48), none, some (vj 57), none], [vi (y_cmp (F28 302 (F28 297 22).toNat) 57)], (Wd S L (am_up F28 297 24 (v1 - 48)) G h))) (by decide) [0, 0, 0, 0] rfl ⟨⟨trivial, ⟨y_cmp_r32, (fun e => c39 (y_cmp_lt.mp e))⟩⟩, ⟨(r64 g38), (by decide : R64 57)⟩⟩ ?_
            by_cases c43 : 57 < (F28 302 (F28 297 22).toNat)
            · rw [if_pos c43] at H
              refine pt112 (s' := (18, [some (vj (F28 302 (F28 297 22).toNat)), none, some (vj 48), none, some (vj 57), none], [vi 0], (Wd S L (am_up F28 297 24 (v1 - 48)) G h))) (by decide) [1, 0] rfl ⟨trivial, ⟨y_cmp_r32, (y_cmp_gt.mpr c43)⟩⟩ ?_
              refine wp.fin (v := some (vi 0)) (by decide) am_m112 rfl ⟨_, rfl, Or.inr ⟨rfl, Or.inl rfl⟩, rfl⟩ ?_
              show wp 8 176 (54, [some (vr 297), some (vi v1), some (vi (F2 297 22))], [vi 0], (Wd S L (am_up F28 297 24 (v1 - 48)) G h)) _
              obtain ⟨g44, H⟩ := H
              refine pt176 (s' := (102, [some (vr 297), some (vi v1), some (vi (F2 297 22))], [vj 12, vj 1, vj (v1 - 48)], (Wd S L (am_up F28 297 24 (v1 - 48)) G h))) (by decide) [1, 0, 0, 0, 0, 0, 0, 0, 0] rfl ⟨⟨⟨⟨⟨trivial, ⟨(by decide : R32 0), (by decide : (0 : Int) = (0 : Int))⟩⟩, ⟨Nat.le_of_ble_eq_true rfl, rfl⟩⟩, ⟨g29, c30⟩⟩, ⟨Nat.le_of_ble_eq_true rfl, rfl⟩⟩, g44⟩ ?_
              refine wp.cl am_m176 rfl am_m112 6 [vj (v1 - 48), vj 1, vj 12] [] rfl (Nat.le_of_ble_eq_true rfl) (Nat.le_of_ble_eq_true rfl) rfl (Nat.le_of_ble_eq_true rfl) rfl (Nat.le_of_ble_eq_true rfl) (Nat.le_of_ble_eq_true rfl) trivial ?_
              refine pt112 (s' := (3, [some (vj (v1 - 48)), none, some (vj 1), none, some (vj 12), none], [vi (y_cmp (v1 - 48) 1)], (Wd S L (am_up F28 297 24 (v1 - 48)) G h))) (by decide) [0, 0, 0] rfl ⟨trivial, ⟨(r64 g44), (by decide : R64 1)⟩⟩ ?_
              by_cases c45 : (v1 - 48) < 1
              · rw [if_pos c45] at H
                refine pt112 (s' := (18, [some (vj (v1 - 48)), none, some (vj 1), none, some (vj 12), none], [vi 0], (Wd S L (am_up F28 297 24 (v1 - 48)) G h))) (by decide) [1, 0] rfl ⟨trivial, ⟨y_cmp_r32, (y_cmp_lt.mpr c45)⟩⟩ ?_
                refine wp.fin (v := some (vi 0)) (by decide) am_m112 rfl ⟨_, rfl, Or.inr ⟨rfl, Or.inl rfl⟩, rfl⟩ ?_
                show wp 8 176 (105, [some (vr 297), some (vi v1), some (vi (F2 297 22))], [vi 0], (Wd S L (am_up F28 297 24 (v1 - 48)) G h)) _
                refine pt176 (s' := (118, [some (vr 297), some (vi v1), some (vi (F2 297 22))], [], (Wd S L (am_up (am_up (am_up F28 297 24 (v1 - 48)) 297 23 1) 297 22 (F2 297 22)) G h))) (by decide) [0, 0, 0, 0, 0, 0, 0] rfl ⟨⟨⟨trivial, ⟨(by decide : R32 0), (by decide : (0 : Int) = (0 : Int))⟩⟩, ⟨Nat.le_of_ble_eq_true rfl, rfl, fun _ => Or.inr rfl⟩⟩, ⟨Nat.le_of_ble_eq_true rfl, rfl, fun h => by cases h⟩⟩ ?_
                exact wp.fin (v := none) (by decide) am_m176 rfl ⟨rfl, rfl, rfl⟩ H
              · rw [if_neg c45] at H
                refine pt112 (s' := (10, [some (vj (v1 - 48)), none, some (vj 1), none, some (vj 12), none], [vi (y_cmp (v1 - 48) 12)], (Wd S L (am_up F28 297 24 (v1 - 48)) G h))) (by decide) [0, 0, 0, 0] rfl ⟨⟨trivial, ⟨y_cmp_r32, (fun e => c45 (y_cmp_lt.mp e))⟩⟩, ⟨(r64 g44), (by decide : R64 12)⟩⟩ ?_
                by_cases c46 : 12 < (v1 - 48)
                · rw [if_pos c46] at H
                  refine pt112 (s' := (18, [some (vj (v1 - 48)), none, some (vj 1), none, some (vj 12), none], [vi 0], (Wd S L (am_up F28 297 24 (v1 - 48)) G h))) (by decide) [1, 0] rfl ⟨trivial, ⟨y_cmp_r32, (y_cmp_gt.mpr c46)⟩⟩ ?_
                  refine wp.fin (v := some (vi 0)) (by decide) am_m112 rfl ⟨_, rfl, Or.inr ⟨rfl, Or.inl rfl⟩, rfl⟩ ?_
                  show wp 8 176 (105, [some (vr 297), some (vi v1), some (vi (F2 297 22))], [vi 0], (Wd S L (am_up F28 297 24 (v1 - 48)) G h)) _
                  refine pt176 (s' := (118, [some (vr 297), some (vi v1), some (vi (F2 297 22))], [], (Wd S L (am_up (am_up (am_up F28 297 24 (v1 - 48)) 297 23 1) 297 22 (F2 297 22)) G h))) (by decide) [0, 0, 0, 0, 0, 0, 0] rfl ⟨⟨⟨trivial, ⟨(by decide : R32 0), (by decide : (0 : Int) = (0 : Int))⟩⟩, ⟨Nat.le_of_ble_eq_true rfl, rfl, fun _ => Or.inr rfl⟩⟩, ⟨Nat.le_of_ble_eq_true rfl, rfl, fun h => by cases h⟩⟩ ?_
                  exact wp.fin (v := none) (by decide) am_m176 rfl ⟨rfl, rfl, rfl⟩ H
                · rw [if_neg c46] at H
                  refine pt112 (s' := (18, [some (vj (v1 - 48)), none, some (vj 1), none, some (vj 12), none], [vi 1], (Wd S L (am_up F28 297 24 (v1 - 48)) G h))) (by decide) [0, 0, 0] rfl ⟨trivial, ⟨y_cmp_r32, (fun e => c46 (y_cmp_gt.mp e))⟩⟩ ?_
                  refine wp.fin (v := some (vi 1)) (by decide) am_m112 rfl ⟨_, rfl, Or.inr ⟨rfl, Or.inr rfl⟩, rfl⟩ ?_
                  show wp 8 176 (105, [some (vr 297), some (vi v1), some (vi (F2 297 22))], [vi 1], (Wd S L (am_up F28 297 24 (v1 - 48)) G h)) _
                  refine pt176 (s' := (118, [some (vr 297), some (vi v1), some (vi (F2 297 22))], [], (Wd S L (am_up F28 297 24 (v1 - 48)) G h))) (by decide) [1] rfl ⟨trivial, ⟨(by decide : R32 1), (by decide : ¬ (1 : Int) = (0 : Int))⟩⟩ ?_
                  exact wp.fin (v := none) (by decide) am_m176 rfl ⟨rfl, rfl, rfl⟩ H
            · rw [if_neg c43] at H
              refine pt112 (s' := (18, [some (vj (F28 302 (F28 297 22).toNat)), none, some (vj 48), none, some (vj 57), none], [vi 1], (Wd S L (am_up F28 297 24 (v1 - 48)) G h))) (by decide) [0, 0, 0] rfl ⟨trivial, ⟨y_cmp_r32, (fun e => c43 (y_cmp_gt.mp e))⟩⟩ ?_
              refine wp.fin (v := some (vi 1)) (by decide) am_m112 rfl ⟨_, rfl, Or.inr ⟨rfl, Or.inr rfl⟩, rfl⟩ ?_
              show wp 8 176 (54, [some (vr 297), some (vi v1), some (vi (F2 297 22))], [vi 1], (Wd S L (am_up F28 297 24 (v1 - 48)) G h)) _
              refine pt176 (s' := (66, [some (vr 297), some (vi v1), some (vi (F2 297 22))], [vr 297, vi (10 * (v1 - 48)), vr 297], (Wd S L (am_up F28 297 24 (v1 - 48)) G h))) (by decide) [0, 0, 0, 0, 0, 0, 0] rfl ⟨⟨trivial, ⟨(by decide : R32 1), (by decide : ¬ (1 : Int) = (0 : Int))⟩⟩, ⟨Nat.le_of_ble_eq_true rfl, rfl⟩⟩ ?_
              refine wp.cl am_m176 rfl am_m173 6 [vr 297] [vi (10 * (v1 - 48)), vr 297] rfl (Nat.le_of_ble_eq_true rfl) (Nat.le_of_ble_eq_true rfl) rfl (Nat.le_of_ble_eq_true rfl) rfl (Nat.le_of_ble_eq_true rfl) (Nat.le_of_ble_eq_true rfl) ⟨_, _, rfl, Nat.le_of_ble_eq_true rfl, rfl⟩ ?_
              refine pt173 (s' := (24, [some (vr 297)], [vi (F28 302 (F28 297 22).toNat)], (Wd S L (am_up F28 297 24 (v1 - 48)) G h))) (by decide) [0, 0, 0, 0, 0, 0, 302, 0, 0, 0, 0] rfl ⟨⟨⟨⟨⟨⟨trivial, ⟨Nat.le_of_ble_eq_true rfl, rfl⟩⟩, ⟨Nat.le_of_ble_eq_true rfl, rfl⟩⟩, ⟨⟨g31, g32⟩, c33⟩⟩, ⟨Nat.le_of_ble_eq_true rfl, rfl, hh _ _ _ rfl⟩⟩, ⟨Nat.le_of_ble_eq_true rfl, rfl⟩⟩, (ix ⟨Nat.le_of_ble_eq_true rfl, rfl⟩ g37)⟩ ?_
              refine wp.fin (v := some (vi (F28 302 (F28 297 22).toNat))) (by decide) am_m173 rfl ⟨_, rfl, Or.inl rfl, rfl⟩ ?_
              show wp 8 176 (69, [some (vr 297), some (vi v1), some (vi (F2 297 22))], [vi (F28 302 (F28 297 22).toNat), vi (10 * (v1 - 48)), vr 297], (Wd S L (am_up F28 297 24 (v1 - 48)) G h)) _
              obtain ⟨g47, H⟩ := H
              refine pt176 (s' := (102, [some (vr 297), some (vi v1), some (vi (F2 297 22))], [vj 12, vj 1, vj (((10 * (v1 - 48)) + (F28 302 (F28 297 22).toNat)) - 48)], (Wd S L (am_up (am_up (am_up F28 297 24 (v1 - 48)) 297 24 (((10 * (v1 - 48)) + (F28 302 (F28 297 22).toNat)) - 48)) 297 22 ((F28 297 22) + 1)) G h))) (by decide) [0, 0, 0, 0, 0, 0, 0, 0, 0, 0, 0, 0, 0, 0, 0, 0, 0, 0] rfl ⟨⟨⟨⟨⟨⟨⟨trivial, ⟨Nat.le_of_ble_eq_true rfl, rfl, fun h => by cases h⟩⟩, ⟨Nat.le_of_ble_eq_true rfl, rfl⟩⟩, ⟨Nat.le_of_ble_eq_true rfl, rfl, fun h => by cases h⟩⟩, ⟨Nat.le_of_ble_eq_true rfl, rfl⟩⟩, ⟨g29, c30⟩⟩, ⟨Nat.le_of_ble_eq_true rfl, rfl⟩⟩, g47⟩ ?_
              refine wp.cl am_m176 rfl am_m112 6 [vj (((10 * (v1 - 48)) + (F28 302 (F28 297 22).toNat)) - 48), vj 1, vj 12] [] rfl (Nat.le_of_ble_eq_true rfl) (Nat.le_of_ble_eq_true rfl) rfl (Nat.le_of_ble_eq_true rfl) rfl (Nat.le_of_ble_eq_true rfl) (Nat.le_of_ble_eq_true rfl) trivial ?_
              refine pt112 (s' := (3, [some (vj (((10 * (v1 - 48)) + (F28 302 (F28 297 22).toNat)) - 48)), none, some (vj 1), none, some (vj 12), none], [vi (y_cmp (((10 * (v1 - 48)) + (F28 302 (F28 297 22).toNat)) - 48) 1)], (Wd S L (am_up (am_up (am_up F28 297 24 (v1 - 48)) 297 24 (((10 * (v1 - 48)) + (F28 302 (F28 297 22).toNat)) - 48)) 297 22 ((F28 297 22) + 1)) G h))) (by decide) [0, 0, 0] rfl ⟨trivial, ⟨(r64 g47), (by decide : R64 1)⟩⟩ ?_
              by_cases c48 : (((10 * (v1 - 48)) + (F28 302 (F28 297 22).toNat)) - 48) < 1
              · rw [if_pos c48] at H
                refine pt112 (s' := (18, [some (vj (((10 * (v1 - 48)) + (F28 302 (F28 297 22).toNat)) - 48)), none, some (vj 1), none, some (vj 12), none], [vi 0], (Wd S L (am_up (am_up (am_up F28 297 24 (v1 - 48)) 297 24 (((10 * (v1 - 48)) + (F28 302 (F28 297 22).toNat)) - 48)) 297 22 ((F28 297 22) + 1)) G h))) (by decide) [1, 0] rfl ⟨trivial, ⟨y_cmp_r32, (y_cmp_lt.mpr c48)⟩⟩ ?_
                refine wp.fin (v := some (vi 0)) (by decide) am_m112 rfl ⟨_, rfl, Or.inr ⟨rfl, Or.inl rfl⟩, rfl⟩ ?_
                show wp 8 176 (105, [some (vr 297), some (vi v1), some (vi (F2 297 22))], [vi 0], (Wd S L (am_up (am_up (am_up F28 297 24 (v1 - 48)) 297 24 (((10 * (v1 - 48)) + (F28 302 (F28 297 22).toNat)) - 48)) 297 22 ((F28 297 22) + 1)) G h)) _
                refine pt176 (s' := (118, [some (vr 297), some (vi v1), some (vi (F2 297 22))], [], (Wd S L (am_up (am_up (am_up (am_up (am_up F28 297 24 (v1 - 48)) 297 24 (((10 * (v1 - 48)) + (F28 302 (F28 297 22).toNat)) - 48)) 297 22 ((F28 297 22) + 1)) 297 23 1) 297 22 (F2 297 22)) G h))) (by decide) [0, 0, 0, 0, 0, 0, 0] rfl ⟨⟨⟨trivial, ⟨(by decide : R32 0), (by decide : (0 : Int) = (0 : Int))⟩⟩, ⟨Nat.le_of_ble_eq_true rfl, rfl, fun _ => Or.inr rfl⟩⟩, ⟨Nat.le_of_ble_eq_true rfl, rfl, fun h => by cases h⟩⟩ ?_
                exact wp.fin (v := none) (by decide) am_m176 rfl ⟨rfl, rfl, rfl⟩ H
              · rw [if_neg c48] at H
                refine pt112 (s' := (10, [some (vj (((10 * (v1 - 48)) + (F28 302 (F28 297 22).toNat)) - 48)), none, some (vj 1), none, some (vj 12), none], [vi (y_cmp (((10 * (v1 - 48)) + (F28 302 (F28 297 22).toNat)) - 48) 12)], (Wd S L (am_up (am_up (am_up F28 297 24 (v1 - 48)) 297 24 (((10 * (v1 - 48)) + (F28 302 (F28 297 22).toNat)) - 48)) 297 22 ((F28 297 22) + 1)) G h))) (by decide) [0, 0, 0, 0] rfl ⟨⟨trivial, ⟨y_cmp_r32, (fun e => c48 (y_cmp_lt.mp e))⟩⟩, ⟨(r64 g47), (by decide : R64 12)⟩⟩ ?_
                by_cases c49 : 12 < (((10 * (v1 - 48)) + (F28 302 (F28 297 22).toNat)) - 48)
                · rw [if_pos c49] at H
                  refine pt112 (s' := (18, [some (vj (((10 * (v1 - 48)) + (F28 302 (F28 297 22).toNat)) - 48)), none, some (vj 1), none, some (vj 12), none], [vi 0], (Wd S L (am_up (am_up (am_up F28 297 24 (v1 - 48)) 297 24 (((10 * (v1 - 48)) + (F28 302 (F28 297 22).toNat)) - 48)) 297 22 ((F28 297 22) + 1)) G h))) (by decide) [1, 0] rfl ⟨trivial, ⟨y_cmp_r32, (y_cmp_gt.mpr c49)⟩⟩ ?_
                  refine wp.fin (v := some (vi 0)) (by decide) am_m112 rfl ⟨_, rfl, Or.inr ⟨rfl, Or.inl rfl⟩, rfl⟩ ?_
                  show wp 8 176 (105, [some (vr 297), some (vi v1), some (vi (F2 297 22))], [vi 0], (Wd S L (am_up (am_up (am_up F28 297 24 (v1 - 48)) 297 24 (((10 * (v1 - 48)) + (F28 302 (F28 297 22).toNat)) - 48)) 297 22 ((F28 297 22) + 1)) G h)) _
                  refine pt176 (s' := (118, [some (vr 297), some (vi v1), some (vi (F2 297 22))], [], (Wd S L (am_up (am_up (am_up (am_up (am_up F28 297 24 (v1 - 48)) 297 24 (((10 * (v1 - 48)) + (F28 302 (F28 297 22).toNat)) - 48)) 297 22 ((F28 297 22) + 1)) 297 23 1) 297 22 (F2 297 22)) G h))) (by decide) [0, 0, 0, 0, 0, 0, 0] rfl ⟨⟨⟨trivial, ⟨(by decide : R32 0), (by decide : (0 : Int) = (0 : Int))⟩⟩, ⟨Nat.le_of_ble_eq_true rfl, rfl, fun _ => Or.inr rfl⟩⟩, ⟨Nat.le_of_ble_eq_true rfl, rfl, fun h => by cases h⟩⟩ ?_
                  exact wp.fin (v := none) (by decide) am_m176 rfl ⟨rfl, rfl, rfl⟩ H
                · rw [if_neg c49] at H
                  refine pt112 (s' := (18, [some (vj (((10 * (v1 - 48)) + (F28 302 (F28 297 22).toNat)) - 48)), none, some (vj 1), none, some (vj 12), none], [vi 1], (Wd S L (am_up (am_up (am_up F28 297 24 (v1 - 48)) 297 24 (((10 * (v1 - 48)) + (F28 302 (F28 297 22).toNat)) - 48)) 297 22 ((F28 297 22) + 1)) G h))) (by decide) [0, 0, 0] rfl ⟨trivial, ⟨y_cmp_r32, (fun e => c49 (y_cmp_gt.mp e))⟩⟩ ?_
                  refine wp.fin (v := some (vi 1)) (by decide) am_m112 rfl ⟨_, rfl, Or.inr ⟨rfl, Or.inr rfl⟩, rfl⟩ ?_
                  show wp 8 176 (105, [some (vr 297), some (vi v1), some (vi (F2 297 22))], [vi 1], (Wd S L (am_up (am_up (am_up F28 297 24 (v1 - 48)) 297 24 (((10 * (v1 - 48)) + (F28 302 (F28 297 22).toNat)) - 48)) 297 22 ((F28 297 22) + 1)) G h)) _
                  refine pt176 (s' := (118, [some (vr 297), some (vi v1), some (vi (F2 297 22))], [], (Wd S L (am_up (am_up (am_up F28 297 24 (v1 - 48)) 297 24 (((10 * (v1 - 48)) + (F28 302 (F28 297 22).toNat)) - 48)) 297 22 ((F28 297 22) + 1)) G h))) (by decide) [1] rfl ⟨trivial, ⟨(by decide : R32 1), (by decide : ¬ (1 : Int) = (0 : Int))⟩⟩ ?_
                  exact wp.fin (v := none) (by decide) am_m176 rfl ⟨rfl, rfl, rfl⟩ H
      · rw [if_neg c30] at H
        refine pt176 (s' := (118, [some (vr 297), some (vi v1), some (vi (F2 297 22))], [], (Wd S L (am_up F28 297 24 (v1 - 48)) G h))) (by decide) [1, 0, 0, 1] rfl ⟨⟨⟨trivial, ⟨g29, c30⟩⟩, ⟨Nat.le_of_ble_eq_true rfl, rfl⟩⟩, ⟨g29, c30⟩⟩ ?_
        exact wp.fin (v := none) (by decide) am_m176 rfl ⟨rfl, rfl, rfl⟩ H
    · rw [if_neg c27] at H
      refine pt112 (s' := (18, [some (vj v1), none, some (vj 48), none, some (vj 57), none], [vi 1], (Wd S L F2 G h))) (by decide) [0, 0, 0] rfl ⟨trivial, ⟨y_cmp_r32, (fun e => c27 (y_cmp_gt.mp e))⟩⟩ ?_
      refine wp.fin (v := some (vi 1)) (by decide) am_m112 rfl ⟨_, rfl, Or.inr ⟨rfl, Or.inr rfl⟩, rfl⟩ ?_
      show wp 8 176 (22, [some (vr 297), some (vi v1), some (vi (F2 297 22))], [vi 1, vr 297], (Wd S L F2 G h)) _
      refine wp.cl am_m176 rfl am_m174 6 [vr 297, vi 1] [] rfl (Nat.le_of_ble_eq_true rfl) (Nat.le_of_ble_eq_true rfl) rfl (Nat.le_of_ble_eq_true rfl) rfl (Nat.le_of_ble_eq_true rfl) (Nat.le_of_ble_eq_true rfl) ⟨_, _, rfl, Nat.le_of_ble_eq_true rfl, rfl⟩ ?_
      refine wp.mono H ?_
      rintro v w1 ⟨F50, rfl, rfl, H⟩
      show wp 8 176 (25, [some (vr 297), some (vi v1), some (vi (F2 297 22))], [], (Wd S L F50 G h)) _
      obtain ⟨g51, H⟩ := H
      refine pt176 (s' := (37, [some (vr 297), some (vi v1), some (vi (F2 297 22))], [vi (F50 297 23)], (Wd S L (am_up F50 297 24 (v1 - 48)) G h))) (by decide) [0, 0, 0, 0, 0, 0, 0] rfl ⟨⟨trivial, ⟨Nat.le_of_ble_eq_true rfl, rfl, fun h => by cases h⟩⟩, ⟨Nat.le_of_ble_eq_true rfl, rfl⟩⟩ ?_
      by_cases c52 : (F50 297 23) = 0
      · rw [if_pos c52] at H
        refine pt176 (s' := (41, [some (vr 297), some (vi v1), some (vi (F2 297 22))], [vr 297], (Wd S L (am_up F50 297 24 (v1 - 48)) G h))) (by decide) [0, 0] rfl ⟨trivial, ⟨g51, c52⟩⟩ ?_
        refine wp.cl am_m176 rfl am_m173 6 [vr 297] [] rfl (Nat.le_of_ble_eq_true rfl) (Nat.le_of_ble_eq_true rfl) rfl (Nat.le_of_ble_eq_true rfl) rfl (Nat.le_of_ble_eq_true rfl) (Nat.le_of_ble_eq_true rfl) ⟨_, _, rfl, Nat.le_of_ble_eq_true rfl, rfl⟩ ?_
        obtain ⟨g53, H⟩ := H
        obtain ⟨g54, H⟩ := H
        refine pt173 (s' := (8, [some (vr 297)], [vi (F50 297 7), vi (F50 297 22)], (Wd S L (am_up F50 297 24 (v1 - 48)) G h))) (by decide) [0, 0, 0, 0] rfl ⟨⟨trivial, ⟨Nat.le_of_ble_eq_true rfl, rfl⟩⟩, ⟨Nat.le_of_ble_eq_true rfl, rfl⟩⟩ ?_
        by_cases c55 : (F50 297 7) ≤ (F50 297 22)
        · rw [if_pos c55] at H
          refine pt173 (s' := (24, [some (vr 297)], [vi 0], (Wd S L (am_up F50 297 24 (v1 - 48)) G h))) (by decide) [1, 0] rfl ⟨trivial, ⟨⟨g53, g54⟩, c55⟩⟩ ?_
          refine wp.fin (v := some (vi 0)) (by decide) am_m173 rfl ⟨_, rfl, Or.inl rfl, rfl⟩ ?_
          show wp 8 176 (44, [some (vr 297), some (vi v1), some (vi (F2 297 22))], [vi 0], (Wd S L (am_up F50 297 24 (v1 - 48)) G h)) _
          refine pt176 (s' := (51, [some (vr 297), some (vi v1), some (vi (F2 297 22))], [vj 57, vj 48, vj 0], (Wd S L (am_up F50 297 24 (v1 - 48)) G h))) (by decide) [0, 0, 0] rfl ⟨trivial, (by decide : R32 0)⟩ ?_
          refine wp.cl am_m176 rfl am_m112 6 [vj 0, vj 48, vj 57] [] rfl (Nat.le_of_ble_eq_true rfl) (Nat.le_of_ble_eq_true rfl) rfl (Nat.le_of_ble_eq_true rfl) rfl (Nat.le_of_ble_eq_true rfl) (Nat.le_of_ble_eq_true rfl) trivial ?_
          refine pt112 (s' := (18, [some (vj 0), none, some (vj 48), none, some (vj 57), none], [vi 0], (Wd S L (am_up F50 297 24 (v1 - 48)) G h))) (by decide) [0, 0, 0, 1, 0] rfl ⟨⟨trivial, ⟨(by decide : R64 0), (by decide : R64 48)⟩⟩, ⟨y_cmp_r32, (by decide : ((y_cmp 0 48) : Int) < (0 : Int))⟩⟩ ?_
          refine wp.fin (v := some (vi 0)) (by decide) am_m112 rfl ⟨_, rfl, Or.inr ⟨rfl, Or.inl rfl⟩, rfl⟩ ?_
          show wp 8 176 (54, [some (vr 297), some (vi v1), some (vi (F2 297 22))], [vi 0], (Wd S L (am_up F50 297 24 (v1 - 48)) G h)) _
          obtain ⟨g56, H⟩ := H
          refine pt176 (s' := (102, [some (vr 297), some (vi v1), some (vi (F2 297 22))], [vj 12, vj 1, vj (v1 - 48)], (Wd S L (am_up F50 297 24 (v1 - 48)) G h))) (by decide) [1, 0, 0, 0, 0, 0, 0, 0, 0] rfl ⟨⟨⟨⟨⟨trivial, ⟨(by decide : R32 0), (by decide : (0 : Int) = (0 : Int))⟩⟩, ⟨Nat.le_of_ble_eq_true rfl, rfl⟩⟩, ⟨g51, c52⟩⟩, ⟨Nat.le_of_ble_eq_true rfl, rfl⟩⟩, g56⟩ ?_
          refine wp.cl am_m176 rfl am_m112 6 [vj (v1 - 48), vj 1, vj 12] [] rfl (Nat.le_of_ble_eq_true rfl) (Nat.le_of_ble_eq_true rfl) rfl (Nat.le_of_ble_eq_true rfl) rfl (Nat.le_of_ble_eq_true rfl) (Nat.le_of_ble_eq_true rfl) trivial ?_
          refine pt112 (s' := (3, [some (vj (v1 - 48)), none, some (vj 1), none, some (vj 12), none], [vi (y_cmp (v1 - 48) 1)], (Wd S L (am_up F50 297 24 (v1 - 48)) G h))) (by decide) [0, 0, 0] rfl ⟨trivial, ⟨(r64 g56), (by decide : R64 1)⟩⟩ ?_
          by_cases c57 : (v1 - 48) < 1
          · rw [if_pos c57] at H
            refine pt112 (s' := (18, [some (vj (v1 - 48)), none, some (vj 1), none, some (vj 12), none], [vi 0], (Wd S L (am_up F50 297 24 (v1 - 48)) G h))) (by decide) [1, 0] rfl ⟨trivial, ⟨y_cmp_r32, (y_cmp_lt.mpr c57)⟩⟩ ?_
            refine wp.fin (v := some (vi 0)) (by decide) am_m112 rfl ⟨_, rfl, Or.inr ⟨rfl, Or.inl rfl⟩, rfl⟩ ?_
            show wp 8 176 (105, [some (vr 297), some (vi v1), some (vi (F2 297 22))], [vi 0], (Wd S L (am_up F50 297 24 (v1 - 48)) G h)) _
            refine pt176 (s' := (118, [some (vr 297), some (vi v1), some (vi (F2 297 22))], [], (Wd S L (am_up (am_up (am_up F50 297 24 (v1 - 48)) 297 23 1) 297 22 (F2 297 22)) G h))) (by decide) [0, 0, 0, 0, 0, 0, 0] rfl ⟨⟨⟨trivial, ⟨(by decide : R32 0), (by decide : (0 : Int) = (0 : Int))⟩⟩, ⟨Nat.le_of_ble_eq_true rfl, rfl, fun _ => Or.inr rfl⟩⟩, ⟨Nat.le_of_ble_eq_true rfl, rfl, fun h => by cases h⟩⟩ ?_
            exact wp.fin (v := none) (by decide) am_m176 rfl ⟨rfl, rfl, rfl⟩ H
          · rw [if_neg c57] at H
            refine pt112 (s' := (10, [some (vj (v1 - 48)), none, some (vj 1), none, some (vj 12), none], [vi (y_cmp (v1 - 48) 12)], (Wd S L (am_up F50 297 24 (v1 - 48)) G h))) (by decide) [0, 0, 0, 0] rfl ⟨⟨trivial, ⟨y_cmp_r32, (fun e => c57 (y_cmp_lt.mp e))⟩⟩, ⟨(r64 g56), (by decide : R64 12)⟩⟩ ?_
            by_cases c58 : 12 < (v1 - 48)
            · rw [if_pos c58] at H
              refine pt112 (s' := (18, [some (vj (v1 - 48)), none, some (vj 1), none, some (vj 12), none], [vi 0], (Wd S L (am_up F50 297 24 (v1 - 48)) G h))) (by decide) [1, 0] rfl ⟨trivial, ⟨y_cmp_r32, (y_cmp_gt.mpr c58)⟩⟩ ?_
              refine wp.fin (v := some (vi 0)) (by decide) am_m112 rfl ⟨_, rfl, Or.inr ⟨rfl, Or.inl rfl⟩, rfl⟩ ?_
              show wp 8 176 (105, [some (vr 297), some (vi v1), some (vi (F2 297 22))], [vi 0], (Wd S L (am_up F50 297 24 (v1 - 48)) G h)) _
              refine pt176 (s' := (118, [some (vr 297), some (vi v1), some (vi (F2 297 22))], [], (Wd S L (am_up (am_up (am_up F50 297 24 (v1 - 48)) 297 23 1) 297 22 (F2 297 22)) G h))) (by decide) [0, 0, 0, 0, 0, 0, 0] rfl ⟨⟨⟨trivial, ⟨(by decide : R32 0), (by decide : (0 : Int) = (0 : Int))⟩⟩, ⟨Nat.le_of_ble_eq_true rfl, rfl, fun _ => Or.inr rfl⟩⟩, ⟨Nat.le_of_ble_eq_true rfl, rfl, fun h => by cases h⟩⟩ ?_
              exact wp.fin (v := none) (by decide) am_m176 rfl ⟨rfl, rfl, rfl⟩ H
            · rw [if_neg c58] at H
              refine pt112 (s' := (18, [some (vj (v1 - 48)), none, some (vj 1), none, some (vj 12), none], [vi 1], (Wd S L (am_up F50 297 24 (v1 - 48)) G h))) (by decide) [0, 0, 0] rfl ⟨trivial, ⟨y_cmp_r32, (fun e => c58 (y_cmp_gt.mp e))⟩⟩ ?_
              refine wp.fin (v := some (vi 1)) (by decide) am_m112 rfl ⟨_, rfl, Or.inr ⟨rfl, Or.inr rfl⟩, rfl⟩ ?_
              show wp 8 176 (105, [some (vr 297), some (vi v1), some (vi (F2 297 22))], [vi 1], (Wd S L (am_up F50 297 24 (v1 - 48)) G h)) _
              refine pt176 (s' := (118, [some (vr 297), some (vi v1), some (vi (F2 297 22))], [], (Wd S L (am_up F50 297 24 (v1 - 48)) G h))) (by decide) [1] rfl ⟨trivial, ⟨(by decide : R32 1), (by decide : ¬ (1 : Int) = (0 : Int))⟩⟩ ?_
              exact wp.fin (v := none) (by decide) am_m176 rfl ⟨rfl, rfl, rfl⟩ H
        · rw [if_neg c55] at H
          obtain ⟨g59, H⟩ := H
          refine pt173 (s' := (24, [some (vr 297)], [vi (F50 302 (F50 297 22).toNat)], (Wd S L (am_up F50 297 24 (v1 - 48)) G h))) (by decide) [0, 0, 302, 0, 0, 0, 0] rfl ⟨⟨⟨⟨trivial, ⟨⟨g53, g54⟩, c55⟩⟩, ⟨Nat.le_of_ble_eq_true rfl, rfl, hh _ _ _ rfl⟩⟩, ⟨Nat.le_of_ble_eq_true rfl, rfl⟩⟩, (ix ⟨Nat.le_of_ble_eq_true rfl, rfl⟩ g59)⟩ ?_
          refine wp.fin (v := some (vi (F50 302 (F50 297 22).toNat))) (by decide) am_m173 rfl ⟨_, rfl, Or.inl rfl, rfl⟩ ?_
          show wp 8 176 (44, [some (vr 297), some (vi v1), some (vi (F2 297 22))], [vi (F50 302 (F50 297 22).toNat)], (Wd S L (am_up F50 297 24 (v1 - 48)) G h)) _
          obtain ⟨g60, H⟩ := H
          refine pt176 (s' := (51, [some (vr 297), some (vi v1), some (vi (F2 297 22))], [vj 57, vj 48, vj (F50 302 (F50 297 22).toNat)], (Wd S L (am_up F50 297 24 (v1 - 48)) G h))) (by decide) [0, 0, 0] rfl ⟨trivial, g60⟩ ?_
          refine wp.cl am_m176 rfl am_m112 6 [vj (F50 302 (F50 297 22).toNat), vj 48, vj 57] [] rfl (Nat.le_of_ble_eq_true rfl) (Nat.le_of_ble_eq_true rfl) rfl (Nat.le_of_ble_eq_true rfl) rfl (Nat.le_of_ble_eq_true rfl) (Nat.le_of_ble_eq_true rfl) trivial ?_
          refine pt112 (s' := (3, [some (vj (F50 302 (F50 297 22).toNat)), none, some (vj 48), none, some (vj 57), none], [vi (y_cmp (F50 302 (F50 297 22).toNat) 48)], (Wd S L (am_up F50 297 24 (v1 - 48)) G h))) (by decide) [0, 0, 0] rfl ⟨trivial, ⟨(r64 g60), (by decide : R64 48)⟩⟩ ?_
          by_cases c61 : (F50 302 (F50 297 22).toNat) < 48
          · rw [if_pos c61] at H
            refine pt112 (s' := (18, [some (vj (F50 302 (F50 297 22).toNat)), none, some (vj 48), none, some (vj 57), none], [vi 0], (Wd S L (am_up F50 297 24 (v1 - 48)) G h))) (by decide) [1, 0] rfl ⟨trivial, ⟨y_cmp_r32, (y_cmp_lt.mpr c61)⟩⟩ ?_
            refine wp.fin (v := some (vi 0)) (by decide) am_m112 rfl ⟨_, rfl, Or.inr ⟨rfl, Or.inl rfl⟩, rfl⟩ ?_
            show wp 8 176 (54, [some (vr 297), some (vi v1), some (vi (F2 297 22))], [vi 0], (Wd S L (am_up F50 297 24 (v1 - 48)) G h)) _
            obtain ⟨g62, H⟩ := H
            refine pt176 (s' := (102, [some (vr 297), some (vi v1), some (vi (F2 297 22))], [vj 12, vj 1, vj (v1 - 48)], (Wd S L (am_up F50 297 24 (v1 - 48)) G h))) (by decide) [1, 0, 0, 0, 0, 0, 0, 0, 0] rfl ⟨⟨⟨⟨⟨trivial, ⟨(by decide : R32 0), (by decide : (0 : Int) = (0 : Int))⟩⟩, ⟨Nat.le_of_ble_eq_true rfl, rfl⟩⟩, ⟨g51, c52⟩⟩, ⟨Nat.le_of_ble_eq_true rfl, rfl⟩⟩, g62⟩ ?_
            refine wp.cl am_m176 rfl am_m112 6 [vj (v1 - 48), vj 1, vj 12] [] rfl (Nat.le_of_ble_eq_true rfl) (Nat.le_of_ble_eq_true rfl) rfl (Nat.le_of_ble_eq_true rfl) rfl (Nat.le_of_ble_eq_true rfl) (Nat.le_of_ble_eq_true rfl) trivial ?_
            refine pt112 (s' := (3, [some (vj (v1 - 48)), none, some (vj 1), none, some (vj 12), none], [vi (y_cmp (v1 - 48) 1)], (Wd S L (am_up F50 297 24 (v1 - 48)) G h))) (by decide) [0, 0, 0] rfl ⟨trivial, ⟨(r64 g62), (by decide : R64 1)⟩⟩ ?_
            by_cases c63 : (v1 - 48) < 1
            · rw [if_pos c63] at H
              refine pt112 (s' := (18, [some (vj (v1 - 48)), none, some (vj 1), none, some (vj 12), none], [vi 0], (Wd S L (am_up F50 297 24 (v1 - 48)) G h))) (by decide) [1, 0] rfl ⟨trivial, ⟨y_cmp_r32, (y_cmp_lt.mpr c63)⟩⟩ ?_
              refine wp.fin (v := some (vi 0)) (by decide) am_m112 rfl ⟨_, rfl, Or.inr ⟨rfl, Or.inl rfl⟩, rfl⟩ ?_
              show wp 8 176 (105, [some (vr 297), some (vi v1), some (vi (F2 297 22))], [vi 0], (Wd S L (am_up F50 297 24 (v1 - 48)) G h)) _
              refine pt176 (s' := (118, [some (vr 297), some (vi v1), some (vi (F2 297 22))], [], (Wd S L (am_up (am_up (am_up F50 297 24 (v1 - 48)) 297 23 1) 297 22 (F2 297 22)) G h))) (by decide) [0, 0, 0, 0, 0, 0, 0] rfl ⟨⟨⟨trivial, ⟨(by decide : R32 0), (by decide : (0 : Int) = (0 : Int))⟩⟩, ⟨Nat.le_of_ble_eq_true rfl, rfl, fun _ => Or.inr rfl⟩⟩, ⟨Nat.le_of_ble_eq_true rfl, rfl, fun h => by cases h⟩⟩ ?_
              exact wp.fin (v := none) (by decide) am_m176 rfl ⟨rfl, rfl, rfl⟩ H
            · rw [if_neg c63] at H
              refine pt112 (s' := (10, [some (vj (v1 - 48)), none, some (vj 1), none, some (vj 12), none], [vi (y_cmp (v1 - 48) 12)], (Wd S L (am_up F50 297 24 (v1 - 48)) G h))) (by decide) [0, 0, 0, 0] rfl ⟨⟨trivial, ⟨y_cmp_r32, (fun e => c63 (y_cmp_lt.mp e))⟩⟩, ⟨(r64 g62), (by decide : R64 12)⟩⟩ ?_
              by_cases c64 : 12 < (v1 - 48)
              · rw [if_pos c64] at H
                refine pt112 (s' := (18, [some (vj (v1 - 48)), none, some (vj 1), none, some (vj 12), none], [vi 0], (Wd S L (am_up F50 297 24 (v1 - 48)) G h))) (by decide) [1, 0] rfl ⟨trivial, ⟨y_cmp_r32, (y_cmp_gt.mpr c64)⟩⟩ ?_
                refine wp.fin (v := some (vi 0)) (by decide) am_m112 rfl ⟨_, rfl, Or.inr ⟨rfl, Or.inl rfl⟩, rfl⟩ ?_
                show wp 8 176 (105, [some (vr 297), some (vi v1), some (vi (F2 297 22))], [vi 0], (Wd S L (am_up F50 297 24 (v1 - 48)) G h)) _
                refine pt176 (s' := (118, [some (vr 297), some (vi v1), some (vi (F2 297 22))], [], (Wd S L (am_up (am_up (am_up F50 297 24 (v1 - 48)) 297 23 1) 297 22 (F2 297 22)) G h))) (by decide) [0, 0, 0, 0, 0, 0, 0] rfl ⟨⟨⟨trivial, ⟨(by decide : R32 0), (by decide : (0 : Int) = (0 : Int))⟩⟩, ⟨Nat.le_of_ble_eq_true rfl, rfl, fun _ => Or.inr rfl⟩⟩, ⟨Nat.le_of_ble_eq_true rfl, rfl, fun h => by cases h⟩⟩ ?_
                exact wp.fin (v := none) (by decide) am_m176 rfl ⟨rfl, rfl, rfl⟩ H
              · rw [if_neg c64] at H
                refine pt112 (s' := (18, [some (vj (v1 - 48)), none, some (vj 1), none, some (vj 12), none], [vi 1], (Wd S L (am_up F50 297 24 (v1 - 48)) G h))) (by decide) [0, 0, 0] rfl ⟨trivial, ⟨y_cmp_r32, (fun e => c64 (y_cmp_gt.mp e))⟩⟩ ?_
                refine wp.fin (v := some (vi 1)) (by decide) am_m112 rfl ⟨_, rfl, Or.inr ⟨rfl, Or.inr rfl⟩, rfl⟩ ?_
                show wp 8 176 (105, [some (vr 297), some (vi v1), some (vi (F2 297 22))], [vi 1], (Wd S L (am_up F50 297 24 (v1 - 48)) G h)) _
                refine pt176 (s' := (118, [some (vr 297), some (vi v1), some (vi (F2 297 22))], [], (Wd S L (am_up F50 297 24 (v1 - 48)) G h))) (by decide) [1] rfl ⟨trivial, ⟨(by decide : R32 1), (by decide : ¬ (1 : Int) = (0 : Int))⟩⟩ ?_
                exact wp.fin (v := none) (by decide) am_m176 rfl ⟨rfl, rfl, rfl⟩ H
          · rw [if_neg c61] at H
            refine pt112 (s' := (10, [some (vj (F50 302 (F50 297 22).toNat)), none, some (vj 48), none, some (vj 57), none], [vi (y_cmp (F50 302 (F50 297 22).toNat) 57)], (Wd S L (am_up F50 297 24 (v1 - 48)) G h))) (by decide) [0, 0, 0, 0] rfl ⟨⟨trivial, ⟨y_cmp_r32, (fun e => c61 (y_cmp_lt.mp e))⟩⟩, ⟨(r64 g60), (by decide : R64 57)⟩⟩ ?_
            by_cases c65 : 57 < (F50 302 (F50 297 22).toNat)
            · rw [if_pos c65] at H
              refine pt112 (s' := (18, [some (vj (F50 302 (F50 297 22).toNat)), none, some (vj 48), none, some (vj 57), none], [vi 0], (Wd S L (am_up F50 297 24 (v1 - 48)) G h))) (by decide) [1, 0] rfl ⟨trivial, ⟨y_cmp_r32, (y_cmp_gt.mpr c65)⟩⟩ ?_
              refine wp.fin (v := some (vi 0)) (by decide) am_m112 rfl ⟨_, rfl, Or.inr ⟨rfl, Or.inl rfl⟩, rfl⟩ ?_
              show wp 8 176 (54, [some (vr 297), some (vi v1), some (vi (F2 297 22))], [vi 0], (Wd S L (am_up F50 297 24 (v1 - 48)) G h)) _
              obtain ⟨g66, H⟩ := H
              refine pt176 (s' := (102, [some (vr 297), some (vi v1), some (vi (F2 297 22))], [vj 12, vj 1, vj (v1 - 48)], (Wd S L (am_up F50 297 24 (v1 - 48)) G h))) (by decide) [1, 0, 0, 0, 0, 0, 0, 0, 0] rfl ⟨⟨⟨⟨⟨trivial, ⟨(by decide : R32 0), (by decide : (0 : Int) = (0 : Int))⟩⟩, ⟨Nat.le_of_ble_eq_true rfl, rfl⟩⟩, ⟨g51, c52⟩⟩, ⟨Nat.le_of_ble_eq_true rfl, rfl⟩⟩, g66⟩ ?_
              refine wp.cl am_m176 rfl am_m112 6 [vj (v1 - 48), vj 1, vj 12] [] rfl (Nat.le_of_ble_eq_true rfl) (Nat.le_of_ble_eq_true rfl) rfl (Nat.le_of_ble_eq_true rfl) rfl (Nat.le_of_ble_eq_true rfl) (Nat.le_of_ble_eq_true rfl) trivial ?_
              refine pt112 (s' := (3, [some (vj (v1 - 48)), none, some (vj 1), none, some (vj 12), none], [vi (y_cmp (v1 - 48) 1)], (Wd S L (am_up F50 297 24 (v1 - 48)) G h))) (by decide) [0, 0, 0] rfl ⟨trivial, ⟨(r64 g66), (by decide : R64 1)⟩⟩ ?_
              by_cases c67 : (v1 - 48) < 1
              · rw [if_pos c67] at H
                refine pt112 (s' := (18, [some (vj (v1 - 48)), none, some (vj 1), none, some (vj 12), none], [vi 0], (Wd S L (am_up F50 297 24 (v1 - 48)) G h))) (by decide) [1, 0] rfl ⟨trivial, ⟨y_cmp_r32, (y_cmp_lt.mpr c67)⟩⟩ ?_
                refine wp.fin (v := some (vi 0)) (by decide) am_m112 rfl ⟨_, rfl, Or.inr ⟨rfl, Or.inl rfl⟩, rfl⟩ ?_
                show wp 8 176 (105, [some (vr 297), some (vi v1), some (vi (F2 297 22))], [vi 0], (Wd S L (am_up F50 297 24 (v1 - 48)) G h)) _
                refine pt176 (s' := (118, [some (vr 297), some (vi v1), some (vi (F2 297 22))], [], (Wd S L (am_up (am_up (am_up F50 297 24 (v1 - 48)) 297 23 1) 297 22 (F2 297 22)) G h))) (by decide) [0, 0, 0, 0, 0, 0, 0] rfl ⟨⟨⟨trivial, ⟨(by decide : R32 0), (by decide : (0 : Int) = (0 : Int))⟩⟩, ⟨Nat.le_of_ble_eq_true rfl, rfl, fun _ => Or.inr rfl⟩⟩, ⟨Nat.le_of_ble_eq_true rfl, rfl, fun h => by cases h⟩⟩ ?_
                exact wp.fin (v := none) (by decide) am_m176 rfl ⟨rfl, rfl, rfl⟩ H
              · rw [if_neg c67] at H
                refine pt112 (s' := (10, [some (vj (v1 - 48)), none, some (vj 1), none, some (vj 12), none], [vi (y_cmp (v1 - 48) 12)], (Wd S L (am_up F50 297 24 (v1 - 48)) G h))) (by decide) [0, 0, 0, 0] rfl ⟨⟨trivial, ⟨y_cmp_r32, (fun e => c67 (y_cmp_lt.mp e))⟩⟩, ⟨(r64 g66), (by decide : R64 12)⟩⟩ ?_
                by_cases c68 : 12 < (v1 - 48)
                · rw [if_pos c68] at H
                  refine pt112 (s' := (18, [some (vj (v1 - 48)), none, some (vj 1), none, some (vj 12), none], [vi 0], (Wd S L (am_up F50 297 24 (v1 - 48)) G h))) (by decide) [1, 0] rfl ⟨trivial, ⟨y_cmp_r32, (y_cmp_gt.mpr c68)⟩⟩ ?_
                  refine wp.fin (v := some (vi 0)) (by decide) am_m112 rfl ⟨_, rfl, Or.inr ⟨rfl, Or.inl rfl⟩, rfl⟩ ?_
                  show wp 8 176 (105, [some (vr 297), some (vi v1), some (vi (F2 297 22))], [vi 0], (Wd S L (am_up F50 297 24 (v1 - 48)) G h)) _
                  refine pt176 (s' := (118, [some (vr 297), some (vi v1), some (vi (F2 297 22))], [], (Wd S L (am_up (am_up (am_up F50 297 24 (v1 - 48)) 297 23 1) 297 22 (F2 297 22)) G h))) (by decide) [0, 0, 0, 0, 0, 0, 0] rfl ⟨⟨⟨trivial, ⟨(by decide : R32 0), (by decide : (0 : Int) = (0 : Int))⟩⟩, ⟨Nat.le_of_ble_eq_true rfl, rfl, fun _ => Or.inr rfl⟩⟩, ⟨Nat.le_of_ble_eq_true rfl, rfl, fun h => by cases h⟩⟩ ?_
                  exact wp.fin (v := none) (by decide) am_m176 rfl ⟨rfl, rfl, rfl⟩ H
                · rw [if_neg c68] at H
                  refine pt112 (s' := (18, [some (vj (v1 - 48)), none, some (vj 1), none, some (vj 12), none], [vi 1], (Wd S L (am_up F50 297 24 (v1 - 48)) G h))) (by decide) [0, 0, 0] rfl ⟨trivial, ⟨y_cmp_r32, (fun e => c68 (y_cmp_gt.mp e))⟩⟩ ?_
                  refine wp.fin (v := some (vi 1)) (by decide) am_m112 rfl ⟨_, rfl, Or.inr ⟨rfl, Or.inr rfl⟩, rfl⟩ ?_
                  show wp 8 176 (105, [some (vr 297), some (vi v1), some (vi (F2 297 22))], [vi 1], (Wd S L (am_up F50 297 24 (v1 - 48)) G h)) _
                  refine pt176 (s' := (118, [some (vr 297), some (vi v1), some (vi (F2 297 22))], [], (Wd S L (am_up F50 297 24 (v1 - 48)) G h))) (by decide) [1] rfl ⟨trivial, ⟨(by decide : R32 1), (by decide : ¬ (1 : Int) = (0 : Int))⟩⟩ ?_
                  exact wp.fin (v := none) (by decide) am_m176 rfl ⟨rfl, rfl, rfl⟩ H
            · rw [if_neg c65] at H
              refine pt112 (s' := (18, [some (vj (F50 302 (F50 297 22).toNat)), none, some (vj 48), none, some (vj 57), none], [vi 1], (Wd S L (am_up F50 297 24 (v1 - 48)) G h))) (by decide) [0, 0, 0] rfl ⟨trivial, ⟨y_cmp_r32, (fun e => c65 (y_cmp_gt.mp e))⟩⟩ ?_
              refine wp.fin (v := some (vi 1)) (by decide) am_m112 rfl ⟨_, rfl, Or.inr ⟨rfl, Or.inr rfl⟩, rfl⟩ ?_
              show wp 8 176 (54, [some (vr 297), some (vi v1), some (vi (F2 297 22))], [vi 1], (Wd S L (am_up F50 297 24 (v1 - 48)) G h)) _
              refine pt176 (s' := (66, [some (vr 297), some (vi v1), some (vi (F2 297 22))], [vr 297, vi (10 * (v1 - 48)), vr 297], (Wd S L (am_up F50 297 24 (v1 - 48)) G h))) (by decide) [0, 0, 0, 0, 0, 0, 0] rfl ⟨⟨trivial, ⟨(by decide : R32 1), (by decide : ¬ (1 : Int) = (0 : Int))⟩⟩, ⟨Nat.le_of_ble_eq_true rfl, rfl⟩⟩ ?_
              refine wp.cl am_m176 rfl am_m173 6 [vr 297] [vi (10 * (v1 - 48)), vr 297] rfl (Nat.le_of_ble_eq_true rfl) (Nat.le_of_ble_eq_true rfl) rfl (Nat.le_of_ble_eq_true rfl) rfl (Nat.le_of_ble_eq_true rfl) (Nat.le_of_ble_eq_true rfl) ⟨_, _, rfl, Nat.le_of_ble_eq_true rfl, rfl⟩ ?_
              refine pt173 (s' := (24, [some (vr 297)], [vi (F50 302 (F50 297 22).toNat)], (Wd S L (am_up F50 297 24 (v1 - 48)) G h))) (by decide) [0, 0, 0, 0, 0, 0, 302, 0, 0, 0, 0] rfl ⟨⟨⟨⟨⟨⟨trivial, ⟨Nat.le_of_ble_eq_true rfl, rfl⟩⟩, ⟨Nat.le_of_ble_eq_true rfl, rfl⟩⟩, ⟨⟨g53, g54⟩, c55⟩⟩, ⟨Nat.le_of_ble_eq_true rfl, rfl, hh _ _ _ rfl⟩⟩, ⟨Nat.le_of_ble_eq_true rfl, rfl⟩⟩, (ix ⟨Nat.le_of_ble_eq_true rfl, rfl⟩ g59)⟩ ?_
              refine wp.fin (v := some (vi (F50 302 (F50 297 22).toNat))) (by decide) am_m173 rfl ⟨_, rfl, Or.inl rfl, rfl⟩ ?_
              show wp 8 176 (69, [some (vr 297), some (vi v1), some (vi (F2 297 22))], [vi (F50 302 (F50 297 22).toNat), vi (10 * (v1 - 48)), vr 297], (Wd S L (am_up F50 297 24 (v1 - 48)) G h)) _
              obtain ⟨g69, H⟩ := H
              refine pt176 (s' := (102, [some (vr 297), some (vi v1), some (vi (F2 297 22))], [vj 12, vj 1, vj (((10 * (v1 - 48)) + (F50 302 (F50 297 22).toNat)) - 48)], (Wd S L (am_up (am_up (am_up F50 297 24 (v1 - 48)) 297 24 (((10 * (v1 - 48)) + (F50 302 (F50 297 22).toNat)) - 48)) 297 22 ((F50 297 22) + 1)) G h))) (by decide) [0, 0, 0, 0, 0, 0, 0, 0, 0, 0, 0, 0, 0, 0, 0, 0, 0, 0] rfl ⟨⟨⟨⟨⟨⟨⟨trivial, ⟨Nat.le_of_ble_eq_true rfl, rfl, fun h => by cases h⟩⟩, ⟨Nat.le_of_ble_eq_true rfl, rfl⟩⟩, ⟨Nat.le_of_ble_eq_true rfl, rfl, fun h => by cases h⟩⟩, ⟨Nat.le_of_ble_eq_true rfl, rfl⟩⟩, ⟨g51, c52⟩⟩, ⟨Nat.le_of_ble_eq_true rfl, rfl⟩⟩, g69⟩ ?_
              refine wp.cl am_m176 rfl am_m112 6 [vj (((10 * (v1 - 48)) + (F50 302 (F50 297 22).toNat)) - 48), vj 1, vj 12] [] rfl (Nat.le_of_ble_eq_true rfl) (Nat.le_of_ble_eq_true rfl) rfl (Nat.le_of_ble_eq_true rfl) rfl (Nat.le_of_ble_eq_true rfl) (Nat.le_of_ble_eq_true rfl) trivial ?_
              refine pt112 (s' := (3, [some (vj (((10 * (v1 - 48)) + (F50 302 (F50 297 22).toNat)) - 48)), none, some (vj 1), none, some (vj 12), none], [vi (y_cmp (((10 * (v1 - 48)) + (F50 302 (F50 297 22).toNat)) - 48) 1)], (Wd S L (am_up (am_up (am_up F50 297 24 (v1 - 48)) 297 24 (((10 * (v1 - 48)) + (F50 302 (F50 297 22).toNat)) - 48)) 297 22 ((F50 297 22) + 1)) G h))) (by decide) [0, 0, 0] rfl ⟨trivial, ⟨(r64 g69), (by decide : R64 1)⟩⟩ ?_
              by_cases c70 : (((10 * (v1 - 48)) + (F50 302 (F50 297 22).toNat)) - 48) < 1
              · rw [if_pos c70] at H
                refine pt112 (s' := (18, [some (vj (((10 * (v1 - 48)) + (F50 302 (F50 297 22).toNat)) - 48)), none, some (vj 1), none, some (vj 12), none], [vi 0], (Wd S L (am_up (am_up (am_up F50 297 24 (v1 - 48)) 297 24 (((10 * (v1 - 48)) + (F50 302 (F50 297 22).toNat)) - 48)) 297 22 ((F50 297 22) + 1)) G h))) (by decide) [1, 0] rfl ⟨trivial, ⟨y_cmp_r32, (y_cmp_lt.mpr c70)⟩⟩ ?_
                refine wp.fin (v := some (vi 0)) (by decide) am_m112 rfl ⟨_, rfl, Or.inr ⟨rfl, Or.inl rfl⟩, rfl⟩ ?_
                show wp 8 176 (105, [some (vr 297), some (vi v1), some (vi (F2 297 22))], [vi 0], (Wd S L (am_up (am_up (am_up F50 297 24 (v1 - 48)) 297 24 (((10 * (v1 - 48)) + (F50 302 (F50 297 22).toNat)) - 48)) 297 22 ((F50 297 22) + 1)) G h)) _
                refine pt176 (s' := (118, [some (vr 297), some (vi v1), some (vi (F2 297 22))], [], (Wd S L (am_up (am_up (am_up (am_up (am_up F50 297 24 (v1 - 48)) 297 24 (((10 * (v1 - 48)) + (F50 302 (F50 297 22).toNat)) - 48)) 297 22 ((F50 297 22) + 1)) 297 23 1) 297 22 (F2 297 22)) G h))) (by decide) [0, 0, 0, 0, 0, 0, 0] rfl ⟨⟨⟨trivial, ⟨(by decide : R32 0), (by decide : (0 : Int) = (0 : Int))⟩⟩, ⟨Nat.le_of_ble_eq_true rfl, rfl, fun _ => Or.inr rfl⟩⟩, ⟨Nat.le_of_ble_eq_true rfl, rfl, fun h => by cases h⟩⟩ ?_
                exact wp.fin (v := none) (by decide) am_m176 rfl ⟨rfl, rfl, rfl⟩ H
              · rw [if_neg c70] at H
                refine pt112 (s' := (10, [some (vj (((10 * (v1 - 48)) + (F50 302 (F50 297 22).toNat)) - 48)), none, some (vj 1), none, some (vj 12), none], [vi (y_cmp (((10 * (v1 - 48)) + (F50 302 (F50 297 22).toNat)) - 48) 12)], (Wd S L (am_up (am_up (am_up F50 297 24 (v1 - 48)) 297 24 (((10 * (v1 - 48)) + (F50 302 (F50 297 22).toNat)) - 48)) 297 22 ((F50 297 22) + 1)) G h))) (by decide) [0, 0, 0, 0] rfl ⟨⟨trivial, ⟨y_cmp_r32, (fun e => c70 (y_cmp_lt.mp e))⟩⟩, ⟨(r64 g69), (by decide : R64 12)⟩⟩ ?_
                by_cases c71 : 12 < (((10 * (v1 - 48)) + (F50 302 (F50 297 22).toNat)) - 48)
                · rw [if_pos c71] at H
                  refine pt112 (s' := (18, [some (vj (((10 * (v1 - 48)) + (F50 302 (F50 297 22).toNat)) - 48)), none, some (vj 1), none, some (vj 12), none], [vi 0], (Wd S L (am_up (am_up (am_up F50 297 24 (v1 - 48)) 297 24 (((10 * (v1 - 48)) + (F50 302 (F50 297 22).toNat)) - 48)) 297 22 ((F50 297 22) + 1)) G h))) (by decide) [1, 0] rfl ⟨trivial, ⟨y_cmp_r32, (y_cmp_gt.mpr c71)⟩⟩ ?_
                  refine wp.fin (v := some (vi 0)) (by decide) am_m112 rfl ⟨_, rfl, Or.inr ⟨rfl, Or.inl rfl⟩, rfl⟩ ?_
                  show wp 8 176 (105, [some (vr 297), some (vi v1), some (vi (F2 297 22))], [vi 0], (Wd S L (am_up (am_up (am_up F50 297 24 (v1 - 48)) 297 24 (((10 * (v1 - 48)) + (F50 302 (F50 297 22).toNat)) - 48)) 297 22 ((F50 297 22) + 1)) G h)) _
                  refine pt176 (s' := (118, [some (vr 297), some (vi v1), some (vi (F2 297 22))], [], (Wd S L (am_up (am_up (am_up (am_up (am_up F50 297 24 (v1 - 48)) 297 24 (((10 * (v1 - 48)) + (F50 302 (F50 297 22).toNat)) - 48)) 297 22 ((F50 297 22) + 1)) 297 23 1) 297 22 (F2 297 22)) G h))) (by decide) [0, 0, 0, 0, 0, 0, 0] rfl ⟨⟨⟨trivial, ⟨(by decide : R32 0), (by decide : (0 : Int) = (0 : Int))⟩⟩, ⟨Nat.le_of_ble_eq_true rfl, rfl, fun _ => Or.inr rfl⟩⟩, ⟨Nat.le_of_ble_eq_true rfl, rfl, fun h => by cases h⟩⟩ ?_
                  exact wp.fin (v := none) (by decide) am_m176 rfl ⟨rfl, rfl, rfl⟩ H
                · rw [if_neg c71] at H
                  refine pt112 (s' := (18, [some (vj (((10 * (v1 - 48)) + (F50 302 (F50 297 22).toNat)) - 48)), none, some (vj 1), none, some (vj 12), none], [vi 1], (Wd S L (am_up (am_up (am_up F50 297 24 (v1 - 48)) 297 24 (((10 * (v1 - 48)) + (F50 302 (F50 297 22).toNat)) - 48)) 297 22 ((F50 297 22) + 1)) G h))) (by decide) [0, 0, 0] rfl ⟨trivial, ⟨y_cmp_r32, (fun e => c71 (y_cmp_gt.mp e))⟩⟩ ?_
                  refine wp.fin (v := some (vi 1)) (by decide) am_m112 rfl ⟨_, rfl, Or.inr ⟨rfl, Or.inr rfl⟩, rfl⟩ ?_
                  show wp 8 176 (105, [some (vr 297), some (vi v1), some (vi (F2 297 22))], [vi 1], (Wd S L (am_up (am_up (am_up F50 297 24 (v1 - 48)) 297 24 (((10 * (v1 - 48)) + (F50 302 (F50 297 22).toNat)) - 48)) 297 22 ((F50 297 22) + 1)) G h)) _
                  refine pt176 (s' := (118, [some (vr 297), some (vi v1), some (vi (F2 297 22))], [], (Wd S L (am_up (am_up (am_up F50 297 24 (v1 - 48)) 297 24 (((10 * (v1 - 48)) + (F50 302 (F50 297 22).toNat)) - 48)) 297 22 ((F50 297 22) + 1)) G h))) (by decide) [1] rfl ⟨trivial, ⟨(by decide : R32 1), (by decide : ¬ (1 : Int) = (0 : Int))⟩⟩ ?_
                  exact wp.fin (v := none) (by decide) am_m176 rfl ⟨rfl, rfl, rfl⟩ H
      · rw [if_neg c52] at H
        refine pt176 (s' := (118, [some (vr 297), some (vi v1), some (vi (F2 297 22))], [], (Wd S L (am_up F50 297 24 (v1 - 48)) G h))) (by decide) [1, 0, 0, 1] rfl ⟨⟨⟨trivial, ⟨g51, c52⟩⟩, ⟨Nat.le_of_ble_eq_true rfl, rfl⟩⟩, ⟨g51, c52⟩⟩ ?_
        exact wp.fin (v := none) (by decide) am_m176 rfl ⟨rfl, rfl, rfl⟩ H
set_option maxRecDepth 100000 in
set_option maxHeartbeats 4000000 in
theorem T177_0 {S L : Nat} {F G : Nat → Nat → Int} {h : Nat → Nat → Option Nat} (hh : RfH h) {a1 : Int}  {Q : Option V2 → W2 → Prop}
    (H : C172_0  (Wd S L F G h) (fun v w1 => ∃ (v1 : Int) (F2 : Nat → Nat → Int), v = some (vi v1) ∧ w1 = (Wd S L F2 G h) ∧
  (R32 v1 ∧
  R32 a1 ∧
  (if v1 = a1 then
   C174_0 1 (Wd S L F2 G h) (fun v w1 => ∃ (F6 : Nat → Nat → Int), v = none ∧ w1 = (Wd S L F6 G h) ∧
    Q (none) (Wd S L F6 G h))
  else
   C174_0 0 (Wd S L F2 G h) (fun v w1 => ∃ (F7 : Nat → Nat → Int), v = none ∧ w1 = (Wd S L F7 G h) ∧
    Q (none) (Wd S L F7 G h)))))) : C177_0 a1 (Wd S L F G h) Q := by
  refine pt177 (s' := (2, [some (vr 297), some (vi a1)], [vr 297, vr 297], (Wd S L F G h))) (by decide) [0, 0] rfl trivial ?_
  refine wp.cl am_m177 rfl am_m172 7 [vr 297] [vr 297] rfl (Nat.le_of_ble_eq_true rfl) (Nat.le_of_ble_eq_true rfl) rfl (Nat.le_of_ble_eq_true rfl) rfl (Nat.le_of_ble_eq_true rfl) (Nat.le_of_ble_eq_true rfl) ⟨_, _, rfl, Nat.le_of_ble_eq_true rfl, rfl⟩ ?_
  refine wp.mono H ?_
  rintro v w1 ⟨v1, F2, rfl, rfl, H⟩
  show wp 8 177 (5, [some (vr 297), some (vi a1)], [vi v1, vr 297], (Wd S L F2 G h)) _
  obtain ⟨g3, H⟩ := H
  obtain ⟨g4, H⟩ := H
  refine pt177 (s' := (6, [some (vr 297), some (vi a1)], [vi a1, vi v1, vr 297], (Wd S L F2 G h))) (by decide) [0] rfl trivial ?_
  by_cases c5 : v1 = a1
  · rw [if_pos c5] at H
    refine pt177 (s' := (14, [some (vr 297), some (vi a1)], [vi 1, vr 297], (Wd S L F2 G h))) (by decide) [0, 0, 0] rfl ⟨trivial, ⟨⟨g3, g4⟩, c5⟩⟩ ?_
    refine wp.cl am_m177 rfl am_m174 6 [vr 297, vi 1] [] rfl (Nat.le_of_ble_eq_true rfl) (Nat.le_of_ble_eq_true rfl) rfl (Nat.le_of_ble_eq_true rfl) rfl (Nat.le_of_ble_eq_true rfl) (Nat.le_of_ble_eq_true rfl) ⟨_, _, rfl, Nat.le_of_ble_eq_true rfl, rfl⟩ ?_
    refine wp.mono H ?_
    rintro v w1 ⟨F6, rfl, rfl, H⟩
    show wp 8 177 (17, [some (vr 297), some (vi a1)], [], (Wd S L F6 G h)) _
    exact wp.fin (v := none) (by decide) am_m177 rfl ⟨rfl, rfl, rfl⟩ H
  · rw [if_neg c5] at H
    refine pt177 (s' := (14, [some (vr 297), some (vi a1)], [vi 0, vr 297], (Wd S L F2 G h))) (by decide) [1, 0] rfl ⟨trivial, ⟨⟨g3, g4⟩, c5⟩⟩ ?_
    refine wp.cl am_m177 rfl am_m174 6 [vr 297, vi 0] [] rfl (Nat.le_of_ble_eq_true rfl) (Nat.le_of_ble_eq_true rfl) rfl (Nat.le_of_ble_eq_true rfl) rfl (Nat.le_of_ble_eq_true rfl) (Nat.le_of_ble_eq_true rfl) ⟨_, _, rfl, Nat.le_of_ble_eq_true rfl, rfl⟩ ?_
    refine wp.mono H ?_
    rintro v w1 ⟨F7, rfl, rfl, H⟩
    show wp 8 177 (17, [some (vr 297), some (vi a1)], [], (Wd S L F7 G h)) _
    exact wp.fin (v := none) (by decide) am_m177 rfl ⟨rfl, rfl, rfl⟩ H
set_option maxRecDepth 100000 in
set_option maxHeartbeats 4000000 in
theorem T178_0 {S L : Nat} {F G : Nat → Nat → Int} {h : Nat → Nat → Option Nat} (hh : RfH h)   {Q : Option V2 → W2 → Prop}
    (H : C178_7 1 (Wd S L (am_up F 297 25 0) G h) Q) : C178_0  (Wd S L F G h) Q := by
  refine pt178 (s' := (7, [some (vr 297), some (vi 1), none], [], (Wd S L (am_up F 297 25 0) G h))) (by decide) [0, 0, 0, 0, 0] rfl ⟨trivial, ⟨Nat.le_of_ble_eq_true rfl, rfl, fun h => by cases h⟩⟩ ?_
  exact wp.weak (a := [some (vr 297), some (vi 1), none]) ⟨rfl, rfl, trivial⟩ H
set_option maxRecDepth 100000 in
set_option maxHeartbeats 4000000 in
theorem T178_7 {S L : Nat} {F G : Nat → Nat → Int} {h : Nat → Nat → Option Nat} (hh : RfH h) {x1 : Int}  {Q : Option V2 → W2 → Prop}
    (H : (R32 x1 ∧
 (if x1 = 0 then
  Q (none) (Wd S L F G h)
 else
  (R32 (F 297 23) ∧
  (if (F 297 23) = 0 then
   C172_0  (Wd S L F G h) (fun v w1 => ∃ (v5 : Int) (F6 : Nat → Nat → Int), v = some (vi v5) ∧ w1 = (Wd S L F6 G h) ∧
    (R32 v5 ∧
    (if v5 < 97 then
     C174_0 0 (Wd S L F6 G h) (fun v w1 => ∃ (F9 : Nat → Nat → Int), v = none ∧ w1 = (Wd S L F9 G h) ∧
      C176_0  (Wd S L F9 G h) (fun v w1 => ∃ (F10 : Nat → Nat → Int), v = none ∧ w1 = (Wd S L F10 G h) ∧
       (R32 (F10 297 23) ∧
       (if (F10 297 23) = 0 then
        ((0 ≤ (2 * (F10 297 25)) ∧ (2 * (F10 297 25)) < 24) ∧
        (0 ≤ ((2 * (F10 297 25)) + 1) ∧ ((2 * (F10 297 25)) + 1) < 24) ∧
        C172_0  (Wd S L (am_up (am_up (am_up F10 312 (2 * (F10 297 25)).toNat (v5 - 97)) 312 ((2 * (F10 297 25)) + 1).toNat (F10 297 24)) 297 25 ((F10 297 25) + 1)) G h) (fun v w1 => ∃ (v15 : Int) (F16 : Nat → Nat → Int), v = some (vi v15) ∧ w1 = (Wd S L F16 G h) ∧
         (R32 v15 ∧
         (if v15 = 44 then
          C178_7 1 (Wd S L (am_up F16 297 22 ((F16 297 22) + 1)) G h) Q
         else
          C178_7 0 (Wd S L (am_up F16 297 22 ((F16 297 22) + 0)) G h) Q))))
       else
        C178_7 x1 (Wd S L F10 G h) Q))))
    else
     (if 108 < v5 then
      C174_0 0 (Wd S L F6 G h) (fun v w1 => ∃ (F20 : Nat → Nat → Int), v = none ∧ w1 = (Wd S L F20 G h) ∧
       C176_0  (Wd S L F20 G h) (fun v w1 => ∃ (F21 : Nat → Nat → Int), v = none ∧ w1 = (Wd S L F21 G h) ∧
        (R32 (F21 297 23) ∧
        (if (F21 297 23) = 0 then
         ((0 ≤ (2 * (F21 297 25)) ∧ (2 * (F21 297 25)) < 24) ∧
         (0 ≤ ((2 * (F21 297 25)) + 1) ∧ ((2 * (F21 297 25)) + 1) < 24) ∧
         C172_0  (Wd S L (am_up (am_up (am_up F21 312 (2 * (F21 297 25)).toNat (v5 - 97)) 312 ((2 * (F21 297 25)) + 1).toNat (F21 297 24)) 297 25 ((F21 297 25) + 1)) G h) (fun v w1 => ∃ (v26 : Int) (F27 : Nat → Nat → Int), v = some (vi v26) ∧ w1 = (Wd S L F27 G h) ∧
          (R32 v26 ∧
          (if v26 = 44 then
           C178_7 1 (Wd S L (am_up F27 297 22 ((F27 297 22) + 1)) G h) Q
          else
           C178_7 0 (Wd S L (am_up F27 297 22 ((F27 297 22) + 0)) G h) Q))))
        else
         C178_7 x1 (Wd S L F21 G h) Q))))
     else
      (R32 (F6 297 25) ∧
      (if 12 ≤ (F6 297 25) then
       C174_0 0 (Wd S L F6 G h) (fun v w1 => ∃ (F32 : Nat → Nat → Int), v = none ∧ w1 = (Wd S L F32 G h) ∧
        C176_0  (Wd S L F32 G h) (fun v w1 => ∃ (F33 : Nat → Nat → Int), v = none ∧ w1 = (Wd S L F33 G h) ∧
         (R32 (F33 297 23) ∧
         (if (F33 297 23) = 0 then
          ((0 ≤ (2 * (F33 297 25)) ∧ (2 * (F33 297 25)) < 24) ∧
          (0 ≤ ((2 * (F33 297 25)) + 1) ∧ ((2 * (F33 297 25)) + 1) < 24) ∧
          C172_0  (Wd S L (am_up (am_up (am_up F33 312 (2 * (F33 297 25)).toNat (v5 - 97)) 312 ((2 * (F33 297 25)) + 1).toNat (F33 297 24)) 297 25 ((F33 297 25) + 1)) G h) (fun v w1 => ∃ (v38 : Int) (F39 : Nat → Nat → Int), v = some (vi v38) ∧ w1 = (Wd S L F39 G h) ∧
           (R32 v38 ∧
           (if v38 = 44 then
            C178_7 1 (Wd S L (am_up F39 297 22 ((F39 297 22) + 1)) G h) Q
           else
            C178_7 0 (Wd S L (am_up F39 297 22 ((F39 297 22) + 0)) G h) Q))))
         else
          C178_7 x1 (Wd S L F33 G h) Q))))
      else
       C174_0 1 (Wd S L F6 G h) (fun v w1 => ∃ (F42 : Nat → Nat → Int), v = none ∧ w1 = (Wd S L F42 G h) ∧
        C176_0  (Wd S L F42 G h) (fun v w1 => ∃ (F43 : Nat → Nat → Int), v = none ∧ w1 = (Wd S L F43 G h) ∧
         (R32 (F43 297 23) ∧
         (if (F43 297 23) = 0 then
          ((0 ≤ (2 * (F43 297 25)) ∧ (2 * (F43 297 25)) < 24) ∧
          (0 ≤ ((2 * (F43 297 25)) + 1) ∧ ((2 * (F43 297 25)) + 1) < 24) ∧
          C172_0  (Wd S L (am_up (am_up (am_up F43 312 (2 * (F43 297 25)).toNat (v5 - 97)) 312 ((2 * (F43 297 25)) + 1).toNat (F43 297 24)) 297 25 ((F43 297 25) + 1)) G h) (fun v w1 => ∃ (v48 : Int) (F49 : Nat → Nat → Int), v = some (vi v48) ∧ w1 = (Wd S L F49 G h) ∧
           (R32 v48 ∧
           (if v48 = 44 then
            C178_7 1 (Wd S L (am_up F49 297 22 ((F49 297 22) + 1)) G h) Q
           else
            C178_7 0 (Wd S L (am_up F49 297 22 ((F49 297 22) + 0)) G h) Q))))
         else
          C178_7 x1 (Wd S L F43 G h) Q))))))))))
  else
   Q (none) (Wd S L F G h)))))) : C178_7 x1 (Wd S L F G h) Q := by
  obtain ⟨g1, H⟩ := H
  refine pt178 (s' := (8, [some (vr 297), some (vi x1), none], [vi x1], (Wd S L F G h))) (by decide) [0] rfl trivial ?_
  by_cases c2 : x1 = 0
  · rw [if_pos c2] at H
    refine pt178 (s' := (144, [some (vr 297), some (vi x1), none], [], (Wd S L F G h))) (by decide) [1] rfl ⟨trivial, ⟨g1, c2⟩⟩ ?_
    exact wp.fin (v := none) (by decide) am_m178 rfl ⟨rfl, rfl, rfl⟩ H
  · rw [if_neg c2] at H
    obtain ⟨g3, H⟩ := H
    refine pt178 (s' := (15, [some (vr 297), some (vi x1), none], [vi (F 297 23)], (Wd S L F G h))) (by decide) [0, 0, 0] rfl ⟨⟨trivial, ⟨g1, c2⟩⟩, ⟨Nat.le_of_ble_eq_true rfl, rfl⟩⟩ ?_
    by_cases c4 : (F 297 23) = 0
    · rw [if_pos c4] at H
      refine pt178 (s' := (19, [some (vr 297), some (vi x1), none], [vr 297], (Wd S L F G h))) (by decide) [0, 0] rfl ⟨trivial, ⟨g3, c4⟩⟩ ?_
      refine wp.cl am_m178 rfl am_m172 7 [vr 297] [] rfl (Nat.le_of_ble_eq_true rfl) (Nat.le_of_ble_eq_true rfl) rfl (Nat.le_of_ble_eq_true rfl) rfl (Nat.le_of_ble_eq_true rfl) (Nat.le_of_ble_eq_true rfl) ⟨_, _, rfl, Nat.le_of_ble_eq_true rfl, rfl⟩ ?_
      refine wp.mono H ?_
      rintro v w1 ⟨v5, F6, rfl, rfl, H⟩
      show wp 9 178 (22, [some (vr 297), some (vi x1), none], [vi v5], (Wd S L F6 G h)) _
      obtain ⟨g7, H⟩ := H
      refine pt178 (s' := (32, [some (vr 297), some (vi x1), some (vi v5)], [vj 108, vj 97, vj v5, vr 297], (Wd S L F6 G h))) (by decide) [0, 0, 0, 0, 0, 0] rfl ⟨trivial, g7⟩ ?_
      refine wp.cl am_m178 rfl am_m112 6 [vj v5, vj 97, vj 108] [vr 297] rfl (Nat.le_of_ble_eq_true rfl) (Nat.le_of_ble_eq_true rfl) rfl (Nat.le_of_ble_eq_true rfl) rfl (Nat.le_of_ble_eq_true rfl) (Nat.le_of_ble_eq_true rfl) trivial ?_
      refine pt112 (s' := (3, [some (vj v5), none, some (vj 97), none, some (vj 108), none], [vi (y_cmp v5 97)], (Wd S L F6 G h))) (by decide) [0, 0, 0] rfl ⟨trivial, ⟨(r64 g7), (by decide : R64 97)⟩⟩ ?_
      by_cases c8 : v5 < 97
      · rw [if_pos c8] at H
        refine pt112 (s' := (18, [some (vj v5), none, some (vj 97), none, some (vj 108), none], [vi 0], (Wd S L F6 G h))) (by decide) [1, 0] rfl ⟨trivial, ⟨y_cmp_r32, (y_cmp_lt.mpr c8)⟩⟩ ?_
        refine wp.fin (v := some (vi 0)) (by decide) am_m112 rfl ⟨_, rfl, Or.inr ⟨rfl, Or.inl rfl⟩, rfl⟩ ?_
        show wp 9 178 (35, [some (vr 297), some (vi x1), some (vi v5)], [vi 0, vr 297], (Wd S L F6 G h)) _
        refine pt178 (s' := (52, [some (vr 297), some (vi x1), some (vi v5)], [vi 0, vr 297], (Wd S L F6 G h))) (by decide) [1, 0] rfl ⟨trivial, ⟨(by decide : R32 0), (by decide : (0 : Int) = (0 : Int))⟩⟩ ?_
        refine wp.cl am_m178 rfl am_m174 6 [vr 297, vi 0] [] rfl (Nat.le_of_ble_eq_true rfl) (Nat.le_of_ble_eq_true rfl) rfl (Nat.le_of_ble_eq_true rfl) rfl (Nat.le_of_ble_eq_true rfl) (Nat.le_of_ble_eq_true rfl) ⟨_, _, rfl, Nat.le_of_ble_eq_true rfl, rfl⟩ ?_
        refine wp.mono H ?_
        rintro v w1 ⟨F9, rfl, rfl, H⟩
        show wp 9 178 (55, [some (vr 297), some (vi x1), some (vi v5)], [], (Wd S L F9 G h)) _
        refine pt178 (s' := (56, [some (vr 297), some (vi x1), some (vi v5)], [vr 297], (Wd S L F9 G h))) (by decide) [0] rfl trivial ?_
        refine wp.cl am_m178 rfl am_m176 8 [vr 297] [] rfl (Nat.le_of_ble_eq_true rfl) (Nat.le_of_ble_eq_true rfl) rfl (Nat.le_of_ble_eq_true rfl) rfl (Nat.le_of_ble_eq_true rfl) (Nat.le_of_ble_eq_true rfl) ⟨_, _, rfl, Nat.le_of_ble_eq_true rfl, rfl⟩ ?_
        refine wp.mono H ?_
        rintro v w1 ⟨F10, rfl, rfl, H⟩
        show wp 9 178 (59, [some (vr 297), some (vi x1), some (vi v5)], [], (Wd S L F10 G h)) _
        obtain ⟨g11, H⟩ := H
        refine pt178 (s' := (63, [some (vr 297), some (vi x1), some (vi v5)], [vi (F10 297 23)], (Wd S L F10 G h))) (by decide) [0, 0] rfl ⟨trivial, ⟨Nat.le_of_ble_eq_true rfl, rfl⟩⟩ ?_
        by_cases c12 : (F10 297 23) = 0
        · rw [if_pos c12] at H
          obtain ⟨g13, H⟩ := H
          obtain ⟨g14, H⟩ := H
          refine pt178 (s' := (109, [some (vr 297), some (vi x1), some (vi v5)], [vr 297], (Wd S L (am_up (am_up (am_up F10 312 (2 * (F10 297 25)).toNat (v5 - 97)) 312 ((2 * (F10 297 25)) + 1).toNat (F10 297 24)) 297 25 ((F10 297 25) + 1)) G h))) (by decide) [0, 0, 312, 0, 0, 0, 0, 0, 0, 0, 0, 0, 312, 0, 0, 0, 0, 0, 0, 0, 0, 0, 0, 0, 0, 0, 0, 0, 0] rfl ⟨⟨⟨⟨⟨⟨⟨⟨⟨⟨trivial, ⟨g11, c12⟩⟩, ⟨Nat.le_of_ble_eq_true rfl, rfl, hh _ _ _ rfl⟩⟩, ⟨Nat.le_of_ble_eq_true rfl, rfl⟩⟩, (ix ⟨Nat.le_of_ble_eq_true rfl, rfl⟩ g13)⟩, ⟨Nat.le_of_ble_eq_true rfl, rfl, hh _ _ _ rfl⟩⟩, ⟨Nat.le_of_ble_eq_true rfl, rfl⟩⟩, ⟨Nat.le_of_ble_eq_true rfl, rfl⟩⟩, (ix ⟨Nat.le_of_ble_eq_true rfl, rfl⟩ g14)⟩, ⟨Nat.le_of_ble_eq_true rfl, rfl⟩⟩, ⟨Nat.le_of_ble_eq_true rfl, rfl, fun h => by cases h⟩⟩ ?_
          refine wp.cl am_m178 rfl am_m172 7 [vr 297] [] rfl (Nat.le_of_ble_eq_true rfl) (Nat.le_of_ble_eq_true rfl) rfl (Nat.le_of_ble_eq_true rfl) rfl (Nat.le_of_ble_eq_true rfl) (Nat.le_of_ble_eq_true rfl) ⟨_, _, rfl, Nat.le_of_ble_eq_true rfl, rfl⟩ ?_
          refine wp.mono H ?_
          rintro v w1 ⟨v15, F16, rfl, rfl, H⟩
          show wp 9 178 (112, [some (vr 297), some (vi x1), some (vi v5)], [vi v15], (Wd S L F16 G h)) _
          obtain ⟨g17, H⟩ := H
          refine pt178 (s' := (114, [some (vr 297), some (vi x1), some (vi v5)], [vi 44, vi v15], (Wd S L F16 G h))) (by decide) [0] rfl trivial ?_
          by_cases c18 : v15 = 44
          · rw [if_pos c18] at H
            refine pt178 (s' := (7, [some (vr 297), some (vi 1), some (vi v5)], [], (Wd S L (am_up F16 297 22 ((F16 297 22) + 1)) G h))) (by decide) [0, 0, 0, 0, 0, 0, 0, 0, 0, 0, 0, 0, 0, 0] rfl ⟨⟨⟨⟨trivial, ⟨⟨g17, (by decide : R32 44)⟩, c18⟩⟩, ⟨Nat.le_of_ble_eq_true rfl, rfl⟩⟩, ⟨(by decide : R32 1), (by decide : ¬ (1 : Int) = (0 : Int))⟩⟩, ⟨Nat.le_of_ble_eq_true rfl, rfl, fun h => by cases h⟩⟩ ?_
            exact wp.weak (a := [some (vr 297), some (vi 1), none]) ⟨rfl, rfl, trivial⟩ H
          · rw [if_neg c18] at H
            refine pt178 (s' := (7, [some (vr 297), some (vi 0), some (vi v5)], [], (Wd S L (am_up F16 297 22 ((F16 297 22) + 0)) G h))) (by decide) [1, 0, 0, 0, 0, 0, 0, 1, 0, 0, 0, 0] rfl ⟨⟨⟨⟨trivial, ⟨⟨g17, (by decide : R32 44)⟩, c18⟩⟩, ⟨Nat.le_of_ble_eq_true rfl, rfl⟩⟩, ⟨(by decide : R32 0), (by decide : (0 : Int) = (0 : Int))⟩⟩, ⟨Nat.le_of_ble_eq_true rfl, rfl, fun h => by cases h⟩⟩ ?_
            exact wp.weak (a := [some (vr 297), some (vi 0), none]) ⟨rfl, rfl, trivial⟩ H
        · rw [if_neg c12] at H
          refine pt178 (s' := (7, [some (vr 297), some (vi x1), some (vi v5)], [], (Wd S L F10 G h))) (by decide) [1, 0] rfl ⟨trivial, ⟨g11, c12⟩⟩ ?_
          exact wp.weak (a := [some (vr 297), some (vi x1), none]) ⟨rfl, rfl, trivial⟩ H
      · rw [if_neg c8] at H
        refine pt112 (s' := (10, [some (vj v5), none, some (vj 97), none, some (vj 108), none], [vi (y_cmp v5 108)], (Wd S L F6 G h))) (by decide) [0, 0, 0, 0] rfl ⟨⟨trivial, ⟨y_cmp_r32, (fun e => c8 (y_cmp_lt.mp e))⟩⟩, ⟨(r64 g7), (by decide : R64 108)⟩⟩ ?_
        by_cases c19 : 108 < v5
        · rw [if_pos c19] at H
          refine pt112 (s' := (18, [some (vj v5), none, some (vj 97), none, some (vj 108), none], [vi 0], (Wd S L F6 G h))) (by decide) [1, 0] rfl ⟨trivial, ⟨y_cmp_r32, (y_cmp_gt.mpr c19)⟩⟩ ?_
          refine wp.fin (v := some (vi 0)) (by decide) am_m112 rfl ⟨_, rfl, Or.inr ⟨rfl, Or.inl rfl⟩, rfl⟩ ?_
          show wp 9 178 (35, [some (vr 297), some (vi x1), some (vi v5)], [vi 0, vr 297], (Wd S L F6 G h)) _
          refine pt178 (s' := (52, [some (vr 297), some (vi x1), some (vi v5)], [vi 0, vr 297], (Wd S L F6 G h))) (by decide) [1, 0] rfl ⟨trivial, ⟨(by decide : R32 0), (by decide : (0 : Int) = (0 : Int))⟩⟩ ?_
          refine wp.cl am_m178 rfl am_m174 6 [vr 297, vi 0] [] rfl (Nat.le_of_ble_eq_true rfl) (Nat.le_of_ble_eq_true rfl) rfl (Nat.le_of_ble_eq_true rfl) rfl (Nat.le_of_ble_eq_true rfl) (Nat.le_of_ble_eq_true rfl) ⟨_, _, rfl, Nat.le_of_ble_eq_true rfl, rfl⟩ ?_
          refine wp.mono H ?_
          rintro v w1 ⟨F20, rfl, rfl, H⟩
          show wp 9 178 (55, [some (vr 297), some (vi x1), some (vi v5)], [], (Wd S L F20 G h)) _
          refine pt178 (s' := (56, [some (vr 297), some (vi x1), some (vi v5)], [vr 297], (Wd S L F20 G h))) (by decide) [0] rfl trivial ?_
          refine wp.cl am_m178 rfl am_m176 8 [vr 297] [] rfl (Nat.le_of_ble_eq_true rfl) (Nat.le_of_ble_eq_true rfl) rfl (Nat.le_of_ble_eq_true rfl) rfl (Nat.le_of_ble_eq_true rfl) (Nat.le_of_ble_eq_true rfl) ⟨_, _, rfl, Nat.le_of_ble_eq_true rfl, rfl⟩ ?_
          refine wp.mono H ?_
          rintro v w1 ⟨F21, rfl, rfl, H⟩
          show wp 9 178 (59, [some (vr 297), some (vi x1), some (vi v5)], [], (Wd S L F21 G h)) _
          obtain ⟨g22, H⟩ := H
          refine pt178 (s' := (63, [some (vr 297), some (vi x1), some (vi v5)], [vi (F21 297 23)], (Wd S L F21 G h))) (by decide) [0, 0] rfl ⟨trivial, ⟨Nat.le_of_ble_eq_true rfl, rfl⟩⟩ ?_
          by_cases c23 : (F21 297 23) = 0
          · rw [if_pos c23] at H
            obtain ⟨g24, H⟩ := H
            obtain ⟨g25, H⟩ := H
            refine pt178 (s' := (109, [some (vr 297), some (vi x1), some (vi v5)], [vr 297], (Wd S L (am_up (am_up (am_up F21 312 (2 * (F21 297 25)).toNat (v5 - 97)) 312 ((2 * (F21 297 25)) + 1).toNat (F21 297 24)) 297 25 ((F21 297 25) + 1)) G h))) (by decide) [0, 0, 312, 0, 0, 0, 0, 0, 0, 0, 0, 0, 312, 0, 0, 0, 0, 0, 0, 0, 0, 0, 0, 0, 0, 0, 0, 0, 0] rfl ⟨⟨⟨⟨⟨⟨⟨⟨⟨⟨trivial, ⟨g22, c23⟩⟩, ⟨Nat.le_of_ble_eq_true rfl, rfl, hh _ _ _ rfl⟩⟩, ⟨Nat.le_of_ble_eq_true rfl, rfl⟩⟩, (ix ⟨Nat.le_of_ble_eq_true rfl, rfl⟩ g24)⟩, ⟨Nat.le_of_ble_eq_true rfl, rfl, hh _ _ _ rfl⟩⟩, ⟨Nat.le_of_ble_eq_true rfl, rfl⟩⟩, ⟨Nat.le_of_ble_eq_true rfl, rfl⟩⟩, (ix ⟨Nat.le_of_ble_eq_true rfl, rfl⟩ g25)⟩, ⟨Nat.le_of_ble_eq_true rfl, rfl⟩⟩, ⟨Nat.le_of_ble_eq_true rfl, rfl, fun h => by cases h⟩⟩ ?_
            refine wp.cl am_m178 rfl am_m172 7 [vr 297] [] rfl (Nat.le_of_ble_eq_true rfl) (Nat.le_of_ble_eq_true rfl) rfl (Nat.le_of_ble_eq_true rfl) rfl (Nat.le_of_ble_eq_true rfl) (Nat.le_of_ble_eq_true rfl) ⟨_, _, rfl, Nat.le_of_ble_eq_true rfl, rfl⟩ ?_
            refine wp.mono H ?_
            rintro v w1 ⟨v26, F27, rfl, rfl, H⟩
            show wp 9 178 (112, [some (vr 297), some (vi x1), some (vi v5)], [vi v26], (Wd S L F27 G h)) _
            obtain ⟨g28, H⟩ := H
            refine pt178 (s' := (114, [some (vr 297), some (vi x1), some (vi v5)], [vi 44, vi v26], (Wd S L F27 G h))) (by decide) [0] rfl trivial ?_
            by_cases c29 : v26 = 44
            · rw [if_pos c29] at H
              refine pt178 (s' := (7, [some (vr 297), some (vi 1), some (vi v5)], [], (Wd S L (am_up F27 297 22 ((F27 297 22) + 1)) G h))) (by decide) [0, 0, 0, 0, 0, 0, 0, 0, 0, 0, 0, 0, 0, 0] rfl ⟨⟨⟨⟨trivial, ⟨⟨g28, (by decide : R32 44)⟩, c29⟩⟩, ⟨Nat.le_of_ble_eq_true rfl, rfl⟩⟩, ⟨(by decide : R32 1), (by decide : ¬ (1 : Int) = (0 : Int))⟩⟩, ⟨Nat.le_of_ble_eq_true rfl, rfl, fun h => by cases h⟩⟩ ?_
              exact wp.weak (a := [some (vr 297), some (vi 1), none]) ⟨rfl, rfl, trivial⟩ H
            · rw [if_neg c29] at H
              refine pt178 (s' := (7, [some (vr 297), some (vi 0), some (vi v5)], [], (Wd S L (am_up F27 297 22 ((F27 297 22) + 0)) G h))) (by decide) [1, 0, 0, 0, 0, 0, 0, 1, 0, 0, 0, 0] rfl ⟨⟨⟨⟨trivial, ⟨⟨g28, (by decide : R32 44)⟩, c29⟩⟩, ⟨Nat.le_of_ble_eq_true rfl, rfl⟩⟩, ⟨(by decide : R32 0), (by decide : (0 : Int) = (0 : Int))⟩⟩, ⟨Nat.le_of_ble_eq_true rfl, rfl, fun h => by cases h⟩⟩ ?_
              exact wp.weak (a := [some (vr 297), some (vi 0), none]) ⟨rfl, rfl, trivial⟩ H
          · rw [if_neg c23] at H
            refine pt178 (s' := (7, [some (vr 297), some (vi x1), some (vi v5)], [], (Wd S L F21 G h))) (by decide) [1, 0] rfl ⟨trivial, ⟨g22, c23⟩⟩ ?_
            exact wp.weak (a := [some (vr 297), some (vi x1), none]) ⟨rfl, rfl, trivial⟩ H
        · rw [if_neg c19] at H
          refine pt112 (s' := (18, [some (vj v5), none, some (vj 97), none, some (vj 108), none], [vi 1], (Wd S L F6 G h))) (by decide) [0, 0, 0] rfl ⟨trivial, ⟨y_cmp_r32, (fun e => c19 (y_cmp_gt.mp e))⟩⟩ ?_
          refine wp.fin (v := some (vi 1)) (by decide) am_m112 rfl ⟨_, rfl, Or.inr ⟨rfl, Or.inr rfl⟩, rfl⟩ ?_
          show wp 9 178 (35, [some (vr 297), some (vi x1), some (vi v5)], [vi 1, vr 297], (Wd S L F6 G h)) _
          obtain ⟨g30, H⟩ := H
          refine pt178 (s' := (44, [some (vr 297), some (vi x1), some (vi v5)], [vi 12, vi (F6 297 25), vr 297], (Wd S L F6 G h))) (by decide) [0, 0, 0, 0] rfl ⟨⟨trivial, ⟨(by decide : R32 1), (by decide : ¬ (1 : Int) = (0 : Int))⟩⟩, ⟨Nat.le_of_ble_eq_true rfl, rfl⟩⟩ ?_
          by_cases c31 : 12 ≤ (F6 297 25)
          · rw [if_pos c31] at H
            refine pt178 (s' := (52, [some (vr 297), some (vi x1), some (vi v5)], [vi 0, vr 297], (Wd S L F6 G h))) (by decide) [1, 0] rfl ⟨trivial, ⟨⟨g30, (by decide : R32 12)⟩, c31⟩⟩ ?_
            refine wp.cl am_m178 rfl am_m174 6 [vr 297, vi 0] [] rfl (Nat.le_of_ble_eq_true rfl) (Nat.le_of_ble_eq_true rfl) rfl (Nat.le_of_ble_eq_true rfl) rfl (Nat.le_of_ble_eq_true rfl) (Nat.le_of_ble_eq_true rfl) ⟨_, _, rfl, Nat.le_of_ble_eq_true rfl, rfl⟩ ?_
            refine wp.mono H ?_
            rintro v w1 ⟨F32, rfl, rfl, H⟩
            show wp 9 178 (55, [some (vr 297), some (vi x1), some (vi v5)], [], (Wd S L F32 G h)) _
            refine pt178 (s' := (56, [some (vr 297), some (vi x1), some (vi v5)], [vr 297], (Wd S L F32 G h))) (by decide) [0] rfl trivial ?_
            refine wp.cl am_m178 rfl am_m176 8 [vr 297] [] rfl (Nat.le_of_ble_eq_true rfl) (Nat.le_of_ble_eq_true rfl) rfl (Nat.le_of_ble_eq_true rfl) rfl (Nat.le_of_ble_eq_true rfl) (Nat.le_of_ble_eq_true rfl) ⟨_, _, rfl, Nat.le_of_ble_eq_true rfl, rfl⟩ ?_
            refine wp.mono H ?_
            rintro v w1 ⟨F33, rfl, rfl, H⟩
            show wp 9 178 (59, [some (vr 297), some (vi x1), some (vi v5)], [], (Wd S L F33 G h)) _
            obtain ⟨g34, H⟩ := H
            refine pt178 (s' := (63, [some (vr 297), some (vi x1), some (vi v5)], [vi (F33 297 23)], (Wd S L F33 G h))) (by decide) [0, 0] rfl ⟨trivial, ⟨Nat.le_of_ble_eq_true rfl, rfl⟩⟩ ?_
            by_cases c35 : (F33 297 23) = 0
            · rw [if_pos c35] at H
              obtain ⟨g36, H⟩ := H
              obtain ⟨g37, H⟩ := H
              refine pt178 (s' := (109, [some (vr 297), some (vi x1), some (vi v5)], [vr 297], (Wd S L (am_up (am_up (am_up F33 312 (2 * (F33 297 25)).toNat (v5 - 97)) 312 ((2 * (F33 297 25)) + 1).toNat (F33 297 24)) 297 25 ((F33 297 25) + 1)) G h))) (by decide) [0, 0, 312, 0, 0, 0, 0, 0, 0, 0, 0, 0, 312, 0, 0, 0, 0, 0, 0, 0, 0, 0, 0, 0, 0, 0, 0, 0, 0] rfl ⟨⟨⟨⟨⟨⟨⟨⟨⟨⟨trivial, ⟨g34, c35⟩⟩, ⟨Nat.le_of_ble_eq_true rfl, rfl, hh _ _ _ rfl⟩⟩, ⟨Nat.le_of_ble_eq_true rfl, rfl⟩⟩, (ix ⟨Nat.le_of_ble_eq_true rfl, rfl⟩ g36)⟩, ⟨Nat.le_of_ble_eq_true rfl, rfl, hh _ _ _ rfl⟩⟩, ⟨Nat.le_of_ble_eq_true rfl, rfl⟩⟩, ⟨Nat.le_of_ble_eq_true rfl, rfl⟩⟩, (ix ⟨Nat.le_of_ble_eq_true rfl, rfl⟩ g37)⟩, ⟨Nat.le_of_ble_eq_true rfl, rfl⟩⟩, ⟨Nat.le_of_ble_eq_true rfl, rfl, fun h => by cases h⟩⟩ ?_
              refine wp.cl am_m178 rfl am_m172 7 [vr 297] [] rfl (Nat.le_of_ble_eq_true rfl) (Nat.le_of_ble_eq_true rfl) rfl (Nat.le_of_ble_eq_true rfl) rfl (Nat.le_of_ble_eq_true rfl) (Nat.le_of_ble_eq_true rfl) ⟨_, _, rfl, Nat.le_of_ble_eq_true rfl, rfl⟩ ?_
              refine wp.mono H ?_
              rintro v w1 ⟨v38, F39, rfl, rfl, H⟩
              show wp 9 178 (112, [some (vr 297), some (vi x1), some (vi v5)], [vi v38], (Wd S L F39 G h)) _
              obtain ⟨g40, H⟩ := H
              refine pt178 (s' := (114, [some (vr 297), some (vi x1), some (vi v5)], [vi 44, vi v38], (Wd S L F39 G h))) (by decide) [0] rfl trivial ?_
              by_cases c41 : v38 = 44
              · rw [if_pos c41] at H
                refine pt178 (s' := (7, [some (vr 297), some (vi 1), some (vi v5)], [], (Wd S L (am_up F39 297 22 ((F39 297 22) + 1)) G h))) (by decide) [0, 0, 0, 0, 0, 0, 0, 0, 0, 0, 0, 0, 0, 0] rfl ⟨⟨⟨⟨trivial, ⟨⟨g40, (by decide : R32 44)⟩, c41⟩⟩, ⟨Nat.le_of_ble_eq_true rfl, rfl⟩⟩, ⟨(by decide : R32 1), (by decide : ¬ (1 : Int) = (0 : Int))⟩⟩, ⟨Nat.le_of_ble_eq_true rfl, rfl, fun h => by cases h⟩⟩ ?_
                exact wp.weak (a := [some (vr 297), some (vi 1), none]) ⟨rfl, rfl, trivial⟩ H
              · rw [if_neg c41] at H
                refine pt178 (s' := (7, [some (vr 297), some (vi 0), some (vi v5)], [], (Wd S L (am_up F39 297 22 ((F39 297 22) + 0)) G h))) (by decide) [1, 0, 0, 0, 0, 0, 0, 1, 0, 0, 0, 0] rfl ⟨⟨⟨⟨trivial, ⟨⟨g40, (by decide : R32 44)⟩, c41⟩⟩, ⟨Nat.le_of_ble_eq_true rfl, rfl⟩⟩, ⟨(by decide : R32 0), (by decide : (0 : Int) = (0 : Int))⟩⟩, ⟨Nat.le_of_ble_eq_true rfl, rfl, fun h => by cases h⟩⟩ ?_
                exact wp.weak (a := [some (vr 297), some (vi 0), none]) ⟨rfl, rfl, trivial⟩ H
            · rw [if_neg c35] at H
              refine pt178 (s' := (7, [some (vr 297), some (vi x1), some (vi v5)], [], (Wd S L F33 G h))) (by decide) [1, 0] rfl ⟨trivial, ⟨g34, c35⟩⟩ ?_
              exact wp.weak (a := [some (vr 297), some (vi x1), none]) ⟨rfl, rfl, trivial⟩ H
          · rw [if_neg c31] at H
            refine pt178 (s' := (52, [some (vr 297), some (vi x1), some (vi v5)], [vi 1, vr 297], (Wd S L F6 G h))) (by decide) [0, 0, 0] rfl ⟨trivial, ⟨⟨g30, (by decide : R32 12)⟩, c31⟩⟩ ?_
            refine wp.cl am_m178 rfl am_m174 6 [vr 297, vi 1] [] rfl (Nat.le_of_ble_eq_true rfl) (Nat.le_of_ble_eq_true rfl) rfl (Nat.le_of_ble_eq_true rfl) rfl (Nat.le_of_ble_eq_true rfl) (Nat.le_of_ble_eq_true rfl) ⟨_, _, rfl, Nat.le_of_ble_eq_true rfl, rfl⟩ ?_
            refine wp.mono H ?_
            rintro v w1 ⟨F42, rfl, rfl, H⟩
            show wp 9 178 (55, [some (vr 297), some (vi x1), some (vi v5)], [], (Wd S L F42 G h)) _
            refine pt178 (s' := (56, [some (vr 297), some (vi x1), some (vi v5)], [vr 297], (Wd S L F42 G h))) (by decide) [0] rfl trivial ?_
            refine wp.cl am_m178 rfl am_m176 8 [vr 297] [] rfl (Nat.le_of_ble_eq_true rfl) (Nat.le_of_ble_eq_true rfl) rfl (Nat.le_of_ble_eq_true rfl) rfl (Nat.le_of_ble_eq_true rfl) (Nat.le_of_ble_eq_true rfl) ⟨_, _, rfl, Nat.le_of_ble_eq_true rfl, rfl⟩ ?_
            refine wp.mono H ?_
            rintro v w1 ⟨F43, rfl, rfl, H⟩
            show wp 9 178 (59, [some (vr 297), some (vi x1), some (vi v5)], [], (Wd S L F43 G h)) _
            obtain ⟨g44, H⟩ := H
            refine pt178 (s' := (63, [some (vr 297), some (vi x1), some (vi v5)], [vi (F43 297 23)], (Wd S L F43 G h))) (by decide) [0, 0] rfl ⟨trivial, ⟨Nat.le_of_ble_eq_true rfl, rfl⟩⟩ ?_
            by_cases c45 : (F43 297 23) = 0
            · rw [if_pos c45] at H
              obtain ⟨g46, H⟩ := H
              obtain ⟨g47, H⟩ := H
              refine pt178 (s' := (109, [some (vr 297), some (vi x1), some (vi v5)], [vr 297], (Wd S L (am_up (am_up (am_up F43 312 (2 * (F43 297 25)).toNat (v5 - 97)) 312 ((2 * (F43 297 25)) + 1).toNat (F43 297 24)) 297 25 ((F43 297 25) + 1)) G h))) (by decide) [0, 0, 312, 0, 0, 0, 0, 0, 0, 0, 0, 0, 312, 0, 0, 0, 0, 0, 0, 0, 0, 0, 0, 0, 0, 0, 0, 0, 0] rfl ⟨⟨⟨⟨⟨⟨⟨⟨⟨⟨trivial, ⟨g44, c45⟩⟩, ⟨Nat.le_of_ble_eq_true rfl, rfl, hh _ _ _ rfl⟩⟩, ⟨Nat.le_of_ble_eq_true rfl, rfl⟩⟩, (ix ⟨Nat.le_of_ble_eq_true rfl, rfl⟩ g46)⟩, ⟨Nat.le_of_ble_eq_true rfl, rfl, hh _ _ _ rfl⟩⟩, ⟨Nat.le_of_ble_eq_true rfl, rfl⟩⟩, ⟨Nat.le_of_ble_eq_true rfl, rfl⟩⟩, (ix ⟨Nat.le_of_ble_eq_true rfl, rfl⟩ g47)⟩, ⟨Nat.le_of_ble_eq_true rfl, rfl⟩⟩, ⟨Nat.le_of_ble_eq_true rfl, rfl, fun h => by cases h⟩⟩ ?_
              refine wp.cl am_m178 rfl am_m172 7 [vr 297] [] rfl (Nat.le_of_ble_eq_true rfl) (Nat.le_of_ble_eq_true rfl) rfl (Nat.le_of_ble_eq_true rfl) rfl (Nat.le_of_ble_eq_true rfl) (Nat.le_of_ble_eq_true rfl) ⟨_, _, rfl, Nat.le_of_ble_eq_true rfl, rfl⟩ ?_
              refine wp.mono H ?_
              rintro v w1 ⟨v48, F49, rfl, rfl, H⟩
              show wp 9 178 (112, [some (vr 297), some (vi x1), some (vi v5)], [vi v48], (Wd S L F49 G h)) _
              obtain ⟨g50, H⟩ := H
              refine pt178 (s' := (114, [some (vr 297), some (vi x1), some (vi v5)], [vi 44, vi v48], (Wd S L F49 G h))) (by decide) [0] rfl trivial ?_
              by_cases c51 : v48 = 44
              · rw [if_pos c51] at H
                refine pt178 (s' := (7, [some (vr 297), some (vi 1), some (vi v5)], [], (Wd S L (am_up F49 297 22 ((F49 297 22) + 1)) G h))) (by decide) [0, 0, 0, 0, 0, 0, 0, 0, 0, 0, 0, 0, 0, 0] rfl ⟨⟨⟨⟨trivial, ⟨⟨g50, (by decide : R32 44)⟩, c51⟩⟩, ⟨Nat.le_of_ble_eq_true rfl, rfl⟩⟩, ⟨(by decide : R32 1), (by decide : ¬ (1 : Int) = (0 : Int))⟩⟩, ⟨Nat.le_of_ble_eq_true rfl, rfl, fun h => by cases h⟩⟩ ?_
                exact wp.weak (a := [some (vr 297), some (vi 1), none]) ⟨rfl, rfl, trivial⟩ H
              · rw [if_neg c51] at H
                refine pt178 (s' := (7, [some (vr 297), some (vi 0), some (vi v5)], [], (Wd S L (am_up F49 297 22 ((F49 297 22) + 0)) G h))) (by decide) [1, 0, 0, 0, 0, 0, 0, 1, 0, 0, 0, 0] rfl ⟨⟨⟨⟨trivial, ⟨⟨g50, (by decide : R32 44)⟩, c51⟩⟩, ⟨Nat.le_of_ble_eq_true rfl, rfl⟩⟩, ⟨(by decide : R32 0), (by decide : (0 : Int) = (0 : Int))⟩⟩, ⟨Nat.le_of_ble_eq_true rfl, rfl, fun h => by cases h⟩⟩ ?_
                exact wp.weak (a := [some (vr 297), some (vi 0), none]) ⟨rfl, rfl, trivial⟩ H
            · rw [if_neg c45] at H
              refine pt178 (s' := (7, [some (vr 297), some (vi x1), some (vi v5)], [], (Wd S L F43 G h))) (by decide) [1, 0] rfl ⟨trivial, ⟨g44, c45⟩⟩ ?_
              exact wp.weak (a := [some (vr 297), some (vi x1), none]) ⟨rfl, rfl, trivial⟩ H
    · rw [if_neg c4] at H
      refine pt178 (s' := (144, [some (vr 297), some (vi x1), none], [], (Wd S L F G h))) (by decide) [1] rfl ⟨trivial, ⟨g3, c4⟩⟩ ?_
      exact wp.fin (v := none) (by decide) am_m178 rfl ⟨rfl, rfl, rfl⟩ H
set_option maxRecDepth 100000 in
set_option maxHeartbeats 4000000 in
theorem T179_0 {S L : Nat} {F G : Nat → Nat → Int} {h : Nat → Nat → Option Nat} (hh : RfH h)   {Q : Option V2 → W2 → Prop}
    (H : C175_0 1 9 (Wd S L F G h) (fun v w1 => ∃ (F1 : Nat → Nat → Int), v = none ∧ w1 = (Wd S L F1 G h) ∧
  C177_0 58 (Wd S L F1 G h) (fun v w1 => ∃ (F2 : Nat → Nat → Int), v = none ∧ w1 = (Wd S L F2 G h) ∧
   C172_0  (Wd S L (am_up F2 297 25 0) G h) (fun v w1 => ∃ (v3 : Int) (F4 : Nat → Nat → Int), v = some (vi v3) ∧ w1 = (Wd S L F4 G h) ∧
    (R32 v3 ∧
    (if v3 < 97 then
     C174_0 0 (Wd S L F4 G h) (fun v w1 => ∃ (F7 : Nat → Nat → Int), v = none ∧ w1 = (Wd S L F7 G h) ∧
      C179_43 (F1 297 24) v3 (Wd S L F7 G h) Q)
    else
     (if 108 < v3 then
      C174_0 0 (Wd S L F4 G h) (fun v w1 => ∃ (F9 : Nat → Nat → Int), v = none ∧ w1 = (Wd S L F9 G h) ∧
       C179_43 (F1 297 24) v3 (Wd S L F9 G h) Q)
     else
      C174_0 1 (Wd S L F4 G h) (fun v w1 => ∃ (F10 : Nat → Nat → Int), v = none ∧ w1 = (Wd S L F10 G h) ∧
       C179_43 (F1 297 24) v3 (Wd S L F10 G h) Q)))))))) : C179_0  (Wd S L F G h) Q := by
  refine pt179 (s' := (4, [some (vr 297), none, none], [vi 9, vi 1, vr 297], (Wd S L F G h))) (by decide) [0, 0, 0] rfl trivial ?_
  refine wp.cl am_m179 rfl am_m175 8 [vr 297, vi 1, vi 9] [] rfl (Nat.le_of_ble_eq_true rfl) (Nat.le_of_ble_eq_true rfl) rfl (Nat.le_of_ble_eq_true rfl) rfl (Nat.le_of_ble_eq_true rfl) (Nat.le_of_ble_eq_true rfl) ⟨_, _, rfl, Nat.le_of_ble_eq_true rfl, rfl⟩ ?_
  refine wp.mono H ?_
  rintro v w1 ⟨F1, rfl, rfl, H⟩
  show wp 9 179 (7, [some (vr 297), none, none], [], (Wd S L F1 G h)) _
  refine pt179 (s' := (15, [some (vr 297), some (vi (F1 297 24)), none], [vi 58, vr 297], (Wd S L F1 G h))) (by decide) [0, 0, 0, 0, 0] rfl ⟨trivial, ⟨Nat.le_of_ble_eq_true rfl, rfl⟩⟩ ?_
  refine wp.cl am_m179 rfl am_m177 8 [vr 297, vi 58] [] rfl (Nat.le_of_ble_eq_true rfl) (Nat.le_of_ble_eq_true rfl) rfl (Nat.le_of_ble_eq_true rfl) rfl (Nat.le_of_ble_eq_true rfl) (Nat.le_of_ble_eq_true rfl) ⟨_, _, rfl, Nat.le_of_ble_eq_true rfl, rfl⟩ ?_
  refine wp.mono H ?_
  rintro v w1 ⟨F2, rfl, rfl, H⟩
  show wp 9 179 (18, [some (vr 297), some (vi (F1 297 24)), none], [], (Wd S L F2 G h)) _
  refine pt179 (s' := (24, [some (vr 297), some (vi (F1 297 24)), none], [vr 297], (Wd S L (am_up F2 297 25 0) G h))) (by decide) [0, 0, 0, 0] rfl ⟨trivial, ⟨Nat.le_of_ble_eq_true rfl, rfl, fun h => by cases h⟩⟩ ?_
  refine wp.cl am_m179 rfl am_m172 7 [vr 297] [] rfl (Nat.le_of_ble_eq_true rfl) (Nat.le_of_ble_eq_true rfl) rfl (Nat.le_of_ble_eq_true rfl) rfl (Nat.le_of_ble_eq_true rfl) (Nat.le_of_ble_eq_true rfl) ⟨_, _, rfl, Nat.le_of_ble_eq_true rfl, rfl⟩ ?_
  refine wp.mono H ?_
  rintro v w1 ⟨v3, F4, rfl, rfl, H⟩
  show wp 9 179 (27, [some (vr 297), some (vi (F1 297 24)), none], [vi v3], (Wd S L F4 G h)) _
  obtain ⟨g5, H⟩ := H
  refine pt179 (s' := (37, [some (vr 297), some (vi (F1 297 24)), some (vi v3)], [vj 108, vj 97, vj v3, vr 297], (Wd S L F4 G h))) (by decide) [0, 0, 0, 0, 0, 0] rfl ⟨trivial, g5⟩ ?_
  refine wp.cl am_m179 rfl am_m112 6 [vj v3, vj 97, vj 108] [vr 297] rfl (Nat.le_of_ble_eq_true rfl) (Nat.le_of_ble_eq_true rfl) rfl (Nat.le_of_ble_eq_true rfl) rfl (Nat.le_of_ble_eq_true rfl) (Nat.le_of_ble_eq_true rfl) trivial ?_
  refine pt112 (s' := (3, [some (vj v3), none, some (vj 97), none, some (vj 108), none], [vi (y_cmp v3 97)], (Wd S L F4 G h))) (by decide) [0, 0, 0] rfl ⟨trivial, ⟨(r64 g5), (by decide : R64 97)⟩⟩ ?_
  by_cases c6 : v3 < 97
  · rw [if_pos c6] at H
    refine pt112 (s' := (18, [some (vj v3), none, some (vj 97), none, some (vj 108), none], [vi 0], (Wd S L F4 G h))) (by decide) [1, 0] rfl ⟨trivial, ⟨y_cmp_r32, (y_cmp_lt.mpr c6)⟩⟩ ?_
    refine wp.fin (v := some (vi 0)) (by decide) am_m112 rfl ⟨_, rfl, Or.inr ⟨rfl, Or.inl rfl⟩, rfl⟩ ?_
    show wp 9 179 (40, [some (vr 297), some (vi (F1 297 24)), some (vi v3)], [vi 0, vr 297], (Wd S L F4 G h)) _
    refine wp.cl am_m179 rfl am_m174 6 [vr 297, vi 0] [] rfl (Nat.le_of_ble_eq_true rfl) (Nat.le_of_ble_eq_true rfl) rfl (Nat.le_of_ble_eq_true rfl) rfl (Nat.le_of_ble_eq_true rfl) (Nat.le_of_ble_eq_true rfl) ⟨_, _, rfl, Nat.le_of_ble_eq_true rfl, rfl⟩ ?_
    refine wp.mono H ?_
    rintro v w1 ⟨F7, rfl, rfl, H⟩
    show wp 9 179 (43, [some (vr 297), some (vi (F1 297 24)), some (vi v3)], [], (Wd S L F7 G h)) _
    exact wp.weak (a := [some (vr 297), some (vi (F1 297 24)), some (vi v3)]) ⟨rfl, rfl, rfl, trivial⟩ H
  · rw [if_neg c6] at H
    refine pt112 (s' := (10, [some (vj v3), none, some (vj 97), none, some (vj 108), none], [vi (y_cmp v3 108)], (Wd S L F4 G h))) (by decide) [0, 0, 0, 0] rfl ⟨⟨trivial, ⟨y_cmp_r32, (fun e => c6 (y_cmp_lt.mp e))⟩⟩, ⟨(r64 g5), (by decide : R64 108)⟩⟩ ?_
    by_cases c8 : 108 < v3
    · rw [if_pos c8] at H
      refine pt112 (s' := (18, [some (vj v3), none, some (vj 97), none, some (vj 108), none], [vi 0], (Wd S L F4 G h))) (by decide) [1, 0] rfl ⟨trivial, ⟨y_cmp_r32, (y_cmp_gt.mpr c8)⟩⟩ ?_
      refine wp.fin (v := some (vi 0)) (by decide) am_m112 rfl ⟨_, rfl, Or.inr ⟨rfl, Or.inl rfl⟩, rfl⟩ ?_
      show wp 9 179 (40, [some (vr 297), some (vi (F1 297 24)), some (vi v3)], [vi 0, vr 297], (Wd S L F4 G h)) _
      refine wp.cl am_m179 rfl am_m174 6 [vr 297, vi 0] [] rfl (Nat.le_of_ble_eq_true rfl) (Nat.le_of_ble_eq_true rfl) rfl (Nat.le_of_ble_eq_true rfl) rfl (Nat.le_of_ble_eq_true rfl) (Nat.le_of_ble_eq_true rfl) ⟨_, _, rfl, Nat.le_of_ble_eq_true rfl, rfl⟩ ?_
      refine wp.mono H ?_
      rintro v w1 ⟨F9, rfl, rfl, H⟩
      show wp 9 179 (43, [some (vr 297), some (vi (F1 297 24)), some (vi v3)], [], (Wd S L F9 G h)) _
      exact wp.weak (a := [some (vr 297), some (vi (F1 297 24)), some (vi v3)]) ⟨rfl, rfl, rfl, trivial⟩ H
    · rw [if_neg c8] at H
      refine pt112 (s' := (18, [some (vj v3), none, some (vj 97), none, some (vj 108), none], [vi 1], (Wd S L F4 G h))) (by decide) [0, 0, 0] rfl ⟨trivial, ⟨y_cmp_r32, (fun e => c8 (y_cmp_gt.mp e))⟩⟩ ?_
      refine wp.fin (v := some (vi 1)) (by decide) am_m112 rfl ⟨_, rfl, Or.inr ⟨rfl, Or.inr rfl⟩, rfl⟩ ?_
      show wp 9 179 (40, [some (vr 297), some (vi (F1 297 24)), some (vi v3)], [vi 1, vr 297], (Wd S L F4 G h)) _
      refine wp.cl am_m179 rfl am_m174 6 [vr 297, vi 1] [] rfl (Nat.le_of_ble_eq_true rfl) (Nat.le_of_ble_eq_true rfl) rfl (Nat.le_of_ble_eq_true rfl) rfl (Nat.le_of_ble_eq_true rfl) (Nat.le_of_ble_eq_true rfl) ⟨_, _, rfl, Nat.le_of_ble_eq_true rfl, rfl⟩ ?_
      refine wp.mono H ?_
      rintro v w1 ⟨F10, rfl, rfl, H⟩
      show wp 9 179 (43, [some (vr 297), some (vi (F1 297 24)), some (vi v3)], [], (Wd S L F10 G h)) _
      exact wp.weak (a := [some (vr 297), some (vi (F1 297 24)), some (vi v3)]) ⟨rfl, rfl, rfl, trivial⟩ H
set_option maxRecDepth 100000 in
set_option maxHeartbeats 4000000 in
theorem T179_43 {S L : Nat} {F G : Nat → Nat → Int} {h : Nat → Nat → Option Nat} (hh : RfH h) {x1 : Int} {x2 : Int}  {Q : Option V2 → W2 → Prop}
    (H : (R32 (F 297 23) ∧
 (if (F 297 23) = 0 then
  (R32 x2 ∧
  (if x2 < 97 then
   Q (none) (Wd S L (am_up F 297 24 x1) G h)
  else
   (if 108 < x2 then
    Q (none) (Wd S L (am_up F 297 24 x1) G h)
   else
    (R32 (F 297 25) ∧
    (if 6 ≤ (F 297 25) then
     Q (none) (Wd S L (am_up F 297 24 x1) G h)
    else
     ((0 ≤ (F 297 25) ∧ (F 297 25) < 24) ∧
     R32 (F 297 22) ∧
     R32 (F 297 7) ∧
     (if (F 297 7) ≤ (F 297 22) then
      C179_43 x1 0 (Wd S L (am_up (am_up (am_up F 312 (F 297 25).toNat (x2 - 97)) 297 25 ((F 297 25) + 1)) 297 22 ((F 297 22) + 0)) G h) Q
     else
      ((0 ≤ (F 297 22) ∧ (F 297 22) < 90) ∧
      R32 (F 302 (F 297 22).toNat) ∧
      (if (F 302 (F 297 22).toNat) < 97 then
       C179_43 x1 (F 302 (F 297 22).toNat) (Wd S L (am_up (am_up (am_up F 312 (F 297 25).toNat (x2 - 97)) 297 25 ((F 297 25) + 1)) 297 22 ((F 297 22) + 0)) G h) Q
      else
       (if 108 < (F 302 (F 297 22).toNat) then
        C179_43 x1 (F 302 (F 297 22).toNat) (Wd S L (am_up (am_up (am_up F 312 (F 297 25).toNat (x2 - 97)) 297 25 ((F 297 25) + 1)) 297 22 ((F 297 22) + 0)) G h) Q
       else
        (R32 ((F 297 25) + 1) ∧
        (if 6 ≤ ((F 297 25) + 1) then
         C179_43 x1 (F 302 (F 297 22).toNat) (Wd S L (am_up (am_up (am_up F 312 (F 297 25).toNat (x2 - 97)) 297 25 ((F 297 25) + 1)) 297 22 ((F 297 22) + 0)) G h) Q
        else
         C179_43 x1 (F 302 (F 297 22).toNat) (Wd S L (am_up (am_up (am_up F 312 (F 297 25).toNat (x2 - 97)) 297 25 ((F 297 25) + 1)) 297 22 ((F 297 22) + 1)) G h) Q))))))))))))
 else
  Q (none) (Wd S L (am_up F 297 24 x1) G h)))) : C179_43 x1 x2 (Wd S L F G h) Q := by
  obtain ⟨g1, H⟩ := H
  refine pt179 (s' := (47, [some (vr 297), some (vi x1), some (vi x2)], [vi (F 297 23)], (Wd S L F G h))) (by decide) [0, 0] rfl ⟨trivial, ⟨Nat.le_of_ble_eq_true rfl, rfl⟩⟩ ?_
  by_cases c2 : (F 297 23) = 0
  · rw [if_pos c2] at H
    obtain ⟨g3, H⟩ := H
    refine pt179 (s' := (58, [some (vr 297), some (vi x1), some (vi x2)], [vj 108, vj 97, vj x2], (Wd S L F G h))) (by decide) [0, 0, 0, 0, 0] rfl ⟨⟨trivial, ⟨g1, c2⟩⟩, g3⟩ ?_
    refine wp.cl am_m179 rfl am_m112 6 [vj x2, vj 97, vj 108] [] rfl (Nat.le_of_ble_eq_true rfl) (Nat.le_of_ble_eq_true rfl) rfl (Nat.le_of_ble_eq_true rfl) rfl (Nat.le_of_ble_eq_true rfl) (Nat.le_of_ble_eq_true rfl) trivial ?_
    refine pt112 (s' := (3, [some (vj x2), none, some (vj 97), none, some (vj 108), none], [vi (y_cmp x2 97)], (Wd S L F G h))) (by decide) [0, 0, 0] rfl ⟨trivial, ⟨(r64 g3), (by decide : R64 97)⟩⟩ ?_
    by_cases c4 : x2 < 97
    · rw [if_pos c4] at H
      refine pt112 (s' := (18, [some (vj x2), none, some (vj 97), none, some (vj 108), none], [vi 0], (Wd S L F G h))) (by decide) [1, 0] rfl ⟨trivial, ⟨y_cmp_r32, (y_cmp_lt.mpr c4)⟩⟩ ?_
      refine wp.fin (v := some (vi 0)) (by decide) am_m112 rfl ⟨_, rfl, Or.inr ⟨rfl, Or.inl rfl⟩, rfl⟩ ?_
      show wp 9 179 (61, [some (vr 297), some (vi x1), some (vi x2)], [vi 0], (Wd S L F G h)) _
      refine pt179 (s' := (146, [some (vr 297), some (vi x1), some (vi x2)], [], (Wd S L (am_up F 297 24 x1) G h))) (by decide) [1, 0, 0, 0] rfl ⟨⟨trivial, ⟨(by decide : R32 0), (by decide : (0 : Int) = (0 : Int))⟩⟩, ⟨Nat.le_of_ble_eq_true rfl, rfl, fun h => by cases h⟩⟩ ?_
      exact wp.fin (v := none) (by decide) am_m179 rfl ⟨rfl, rfl, rfl⟩ H
    · rw [if_neg c4] at H
      refine pt112 (s' := (10, [some (vj x2), none, some (vj 97), none, some (vj 108), none], [vi (y_cmp x2 108)], (Wd S L F G h))) (by decide) [0, 0, 0, 0] rfl ⟨⟨trivial, ⟨y_cmp_r32, (fun e => c4 (y_cmp_lt.mp e))⟩⟩, ⟨(r64 g3), (by decide : R64 108)⟩⟩ ?_
      by_cases c5 : 108 < x2
      · rw [if_pos c5] at H
        refine pt112 (s' := (18, [some (vj x2), none, some (vj 97), none, some (vj 108), none], [vi 0], (Wd S L F G h))) (by decide) [1, 0] rfl ⟨trivial, ⟨y_cmp_r32, (y_cmp_gt.mpr c5)⟩⟩ ?_
        refine wp.fin (v := some (vi 0)) (by decide) am_m112 rfl ⟨_, rfl, Or.inr ⟨rfl, Or.inl rfl⟩, rfl⟩ ?_
        show wp 9 179 (61, [some (vr 297), some (vi x1), some (vi x2)], [vi 0], (Wd S L F G h)) _
        refine pt179 (s' := (146, [some (vr 297), some (vi x1), some (vi x2)], [], (Wd S L (am_up F 297 24 x1) G h))) (by decide) [1, 0, 0, 0] rfl ⟨⟨trivial, ⟨(by decide : R32 0), (by decide : (0 : Int) = (0 : Int))⟩⟩, ⟨Nat.le_of_ble_eq_true rfl, rfl, fun h => by cases h⟩⟩ ?_
        exact wp.fin (v := none) (by decide) am_m179 rfl ⟨rfl, rfl, rfl⟩ H
      · rw [if_neg c5] at H
        refine pt112 (s' := (18, [some (vj x2), none, some (vj 97), none, some (vj 108), none], [vi 1], (Wd S L F G h))) (by decide) [0, 0, 0] rfl ⟨trivial, ⟨y_cmp_r32, (fun e => c5 (y_cmp_gt.mp e))⟩⟩ ?_
        refine wp.fin (v := some (vi 1)) (by decide) am_m112 rfl ⟨_, rfl, Or.inr ⟨rfl, Or.inr rfl⟩, rfl⟩ ?_
        show wp 9 179 (61, [some (vr 297), some (vi x1), some (vi x2)], [vi 1], (Wd S L F G h)) _
        obtain ⟨g6, H⟩ := H
        refine pt179 (s' := (70, [some (vr 297), some (vi x1), some (vi x2)], [vi 6, vi (F 297 25)], (Wd S L F G h))) (by decide) [0, 0, 0, 0] rfl ⟨⟨trivial, ⟨(by decide : R32 1), (by decide : ¬ (1 : Int) = (0 : Int))⟩⟩, ⟨Nat.le_of_ble_eq_true rfl, rfl⟩⟩ ?_
        by_cases c7 : 6 ≤ (F 297 25)
        · rw [if_pos c7] at H
          refine pt179 (s' := (146, [some (vr 297), some (vi x1), some (vi x2)], [], (Wd S L (am_up F 297 24 x1) G h))) (by decide) [1, 0, 0, 0] rfl ⟨⟨trivial, ⟨⟨g6, (by decide : R32 6)⟩, c7⟩⟩, ⟨Nat.le_of_ble_eq_true rfl, rfl, fun h => by cases h⟩⟩ ?_
          exact wp.fin (v := none) (by decide) am_m179 rfl ⟨rfl, rfl, rfl⟩ H
        · rw [if_neg c7] at H
          obtain ⟨g8, H⟩ := H
          refine pt179 (s' := (97, [some (vr 297), some (vi x1), some (vi x2)], [vr 297], (Wd S L (am_up (am_up F 312 (F 297 25).toNat (x2 - 97)) 297 25 ((F 297 25) + 1)) G h))) (by decide) [0, 0, 312, 0, 0, 0, 0, 0, 0, 0, 0, 0, 0, 0, 0, 0] rfl ⟨⟨⟨⟨⟨⟨trivial, ⟨⟨g6, (by decide : R32 6)⟩, c7⟩⟩, ⟨Nat.le_of_ble_eq_true rfl, rfl, hh _ _ _ rfl⟩⟩, ⟨Nat.le_of_ble_eq_true rfl, rfl⟩⟩, (ix ⟨Nat.le_of_ble_eq_true rfl, rfl⟩ g8)⟩, ⟨Nat.le_of_ble_eq_true rfl, rfl⟩⟩, ⟨Nat.le_of_ble_eq_true rfl, rfl, fun h => by cases h⟩⟩ ?_
          refine wp.cl am_m179 rfl am_m173 6 [vr 297] [] rfl (Nat.le_of_ble_eq_true rfl) (Nat.le_of_ble_eq_true rfl) rfl (Nat.le_of_ble_eq_true rfl) rfl (Nat.le_of_ble_eq_true rfl) (Nat.le_of_ble_eq_true rfl) ⟨_, _, rfl, Nat.le_of_ble_eq_true rfl, rfl⟩ ?_
          obtain ⟨g9, H⟩ := H
          obtain ⟨g10, H⟩ := H
          refine pt173 (s' := (8, [some (vr 297)], [vi (F 297 7), vi (F 297 22)], (Wd S L (am_up (am_up F 312 (F 297 25).toNat (x2 - 97)) 297 25 ((F 297 25) + 1)) G h))) (by decide) [0, 0, 0, 0] rfl ⟨⟨trivial, ⟨Nat.le_of_ble_eq_true rfl, rfl⟩⟩, ⟨Nat.le_of_ble_eq_true rfl, rfl⟩⟩ ?_
          by_cases c11 : (F 297 7) ≤ (F 297 22)
          · rw [if_pos c11] at H
            refine pt173 (s' := (24, [some (vr 297)], [vi 0], (Wd S L (am_up (am_up F 312 (F 297 25).toNat (x2 - 97)) 297 25 ((F 297 25) + 1)) G h))) (by decide) [1, 0] rfl ⟨trivial, ⟨⟨g9, g10⟩, c11⟩⟩ ?_
            refine wp.fin (v := some (vi 0)) (by decide) am_m173 rfl ⟨_, rfl, Or.inl rfl, rfl⟩ ?_
            show wp 9 179 (100, [some (vr 297), some (vi x1), some (vi x2)], [vi 0], (Wd S L (am_up (am_up F 312 (F 297 25).toNat (x2 - 97)) 297 25 ((F 297 25) + 1)) G h)) _
            refine pt179 (s' := (114, [some (vr 297), some (vi x1), some (vi 0)], [vj 108, vj 97, vj 0, vi (F 297 22), vr 297], (Wd S L (am_up (am_up F 312 (F 297 25).toNat (x2 - 97)) 297 25 ((F 297 25) + 1)) G h))) (by decide) [0, 0, 0, 0, 0, 0, 0, 0] rfl ⟨⟨trivial, ⟨Nat.le_of_ble_eq_true rfl, rfl⟩⟩, (by decide : R32 0)⟩ ?_
            refine wp.cl am_m179 rfl am_m112 6 [vj 0, vj 97, vj 108] [vi (F 297 22), vr 297] rfl (Nat.le_of_ble_eq_true rfl) (Nat.le_of_ble_eq_true rfl) rfl (Nat.le_of_ble_eq_true rfl) rfl (Nat.le_of_ble_eq_true rfl) (Nat.le_of_ble_eq_true rfl) trivial ?_
            refine pt112 (s' := (18, [some (vj 0), none, some (vj 97), none, some (vj 108), none], [vi 0], (Wd S L (am_up (am_up F 312 (F 297 25).toNat (x2 - 97)) 297 25 ((F 297 25) + 1)) G h))) (by decide) [0, 0, 0, 1, 0] rfl ⟨⟨trivial, ⟨(by decide : R64 0), (by decide : R64 97)⟩⟩, ⟨y_cmp_r32, (by decide : ((y_cmp 0 97) : Int) < (0 : Int))⟩⟩ ?_
            refine wp.fin (v := some (vi 0)) (by decide) am_m112 rfl ⟨_, rfl, Or.inr ⟨rfl, Or.inl rfl⟩, rfl⟩ ?_
            show wp 9 179 (117, [some (vr 297), some (vi x1), some (vi 0)], [vi 0, vi (F 297 22), vr 297], (Wd S L (am_up (am_up F 312 (F 297 25).toNat (x2 - 97)) 297 25 ((F 297 25) + 1)) G h)) _
            refine pt179 (s' := (43, [some (vr 297), some (vi x1), some (vi 0)], [], (Wd S L (am_up (am_up (am_up F 312 (F 297 25).toNat (x2 - 97)) 297 25 ((F 297 25) + 1)) 297 22 ((F 297 22) + 0)) G h))) (by decide) [1, 0, 0, 0, 0] rfl ⟨⟨trivial, ⟨(by decide : R32 0), (by decide : (0 : Int) = (0 : Int))⟩⟩, ⟨Nat.le_of_ble_eq_true rfl, rfl, fun h => by cases h⟩⟩ ?_
            exact wp.weak (a := [some (vr 297), some (vi x1), some (vi 0)]) ⟨rfl, rfl, rfl, trivial⟩ H
          · rw [if_neg c11] at H
            obtain ⟨g12, H⟩ := H
            refine pt173 (s' := (24, [some (vr 297)], [vi (F 302 (F 297 22).toNat)], (Wd S L (am_up (am_up F 312 (F 297 25).toNat (x2 - 97)) 297 25 ((F 297 25) + 1)) G h))) (by decide) [0, 0, 302, 0, 0, 0, 0] rfl ⟨⟨⟨⟨trivial, ⟨⟨g9, g10⟩, c11⟩⟩, ⟨Nat.le_of_ble_eq_true rfl, rfl, hh _ _ _ rfl⟩⟩, ⟨Nat.le_of_ble_eq_true rfl, rfl⟩⟩, (ix ⟨Nat.le_of_ble_eq_true rfl, rfl⟩ g12)⟩ ?_
            refine wp.fin (v := some (vi (F 302 (F 297 22).toNat))) (by decide) am_m173 rfl ⟨_, rfl, Or.inl rfl, rfl⟩ ?_
            show wp 9 179 (100, [some (vr 297), some (vi x1), some (vi x2)], [vi (F 302 (F 297 22).toNat)], (Wd S L (am_up (am_up F 312 (F 297 25).toNat (x2 - 97)) 297 25 ((F 297 25) + 1)) G h)) _
            obtain ⟨g13, H⟩ := H
            refine pt179 (s' := (114, [some (vr 297), some (vi x1), some (vi (F 302 (F 297 22).toNat))], [vj 108, vj 97, vj (F 302 (F 297 22).toNat), vi (F 297 22), vr 297], (Wd S L (am_up (am_up F 312 (F 297 25).toNat (x2 - 97)) 297 25 ((F 297 25) + 1)) G h))) (by decide) [0, 0, 0, 0, 0, 0, 0, 0] rfl ⟨⟨trivial, ⟨Nat.le_of_ble_eq_true rfl, rfl⟩⟩, g13⟩ ?_
            refine wp.cl am_m179 rfl am_m112 6 [vj (F 302 (F 297 22).toNat), vj 97, vj 108] [vi (F 297 22), vr 297] rfl (Nat.le_of_ble_eq_true rfl) (Nat.le_of_ble_eq_true rfl) rfl (Nat.le_of_ble_eq_true rfl) rfl (Nat.le_of_ble_eq_true rfl) (Nat.le_of_ble_eq_true rfl) trivial ?_
            refine pt112 (s' := (3, [some (vj (F 302 (F 297 22).toNat)), none, some (vj 97), none, some (vj 108), none], [vi (y_cmp (F 302 (F 297 22).toNat) 97)], (Wd S L (am_up (am_up F 312 (F 297 25).toNat (x2 - 97)) 297 25 ((F 297 25) + 1)) G h))) (by decide) [0, 0, 0] rfl ⟨trivial, ⟨(r64 g13), (by decide : R64 97)⟩⟩ ?_
            by_cases c14 : (F 302 (F 297 22).toNat) < 97
            · rw [if_pos c14] at H
              refine pt112 (s' := (18, [some (vj (F 302 (F 297 22).toNat)), none, some (vj 97), none, some (vj 108), none], [vi 0], (Wd S L (am_up (am_up F 312 (F 297 25).toNat (x2 - 97)) 297 25 ((F 297 25) + 1)) G h))) (by decide) [1, 0] rfl ⟨trivial, ⟨y_cmp_r32, (y_cmp_lt.mpr c14)⟩⟩ ?_
              refine wp.fin (v := some (vi 0)) (by decide) am_m112 rfl ⟨_, rfl, Or.inr ⟨rfl, Or.inl rfl⟩, rfl⟩ ?_
              show wp 9 179 (117, [some (vr 297), some (vi x1), some (vi (F 302 (F 297 22).toNat))], [vi 0, vi (F 297 22), vr 297], (Wd S L (am_up (am_up F 312 (F 297 25).toNat (x2 - 97)) 297 25 ((F 297 25) + 1)) G h)) _
              refine pt179 (s' := (43, [some (vr 297), some (vi x1), some (vi (F 302 (F 297 22).toNat))], [], (Wd S L (am_up (am_up (am_up F 312 (F 297 25).toNat (x2 - 97)) 297 25 ((F 297 25) + 1)) 297 22 ((F 297 22) + 0)) G h))) (by decide) [1, 0, 0, 0, 0] rfl ⟨⟨trivial, ⟨(by decide : R32 0), (by decide : (0 : Int) = (0 : Int))⟩⟩, ⟨Nat.le_of_ble_eq_true rfl, rfl, fun h => by cases h⟩⟩ ?_
              exact wp.weak (a := [some (vr 297), some (vi x1), some (vi (F 302 (F 297 22).toNat))]) ⟨rfl, rfl, rfl, trivial⟩ H
            · rw [if_neg c14] at H
              refine pt112 (s' := (10, [some (vj (F 302 (F 297 22).toNat)), none, some (vj 97), none, some (vj 108), none], [vi (y_cmp (F 302 (F 297 22).toNat) 108)], (Wd S L (am_up (am_up F 312 (F 297 25).toNat (x2 - 97)) 297 25 ((F 297 25) + 1)) G h))) (by decide) [0, 0, 0, 0] rfl ⟨⟨trivial, ⟨y_cmp_r32, (fun e => c14 (y_cmp_lt.mp e))⟩⟩, ⟨(r64 g13), (by decide : R64 108)⟩⟩ ?_
              by_cases c15 : 108 < (F 302 (F 297 22).toNat)
              · rw [if_pos c15] at H
                refine pt112 (s' := (18, [some (vj (F 302 (F 297 22).toNat)), none, some (vj 97), none, some (vj 108), none], [vi 0], (Wd S L (am_up (am_up F 312 (F 297 25).toNat (x2 - 97)) 297 25 ((F 297 25) + 1)) G h))) (by decide) [1, 0] rfl ⟨trivial, ⟨y_cmp_r32, (y_cmp_gt.mpr c15)⟩⟩ ?_
                refine wp.fin (v := some (vi 0)) (by decide) am_m112 rfl ⟨_, rfl, Or.inr ⟨rfl, Or.inl rfl⟩, rfl⟩ ?_
                show wp 9 179 (117, [some (vr 297), some (vi x1), some (vi (F 302 (F 297 22).toNat))], [vi 0, vi (F 297 22), vr 297], (Wd S L (am_up (am_up F 312 (F 297 25).toNat (x2 - 97)) 297 25 ((F 297 25) + 1)) G h)) _
                refine pt179 (s' := (43, [some (vr 297), some (vi x1), some (vi (F 302 (F 297 22).toNat))], [], (Wd S L (am_up (am_up (am_up F 312 (F 297 25).toNat (x2 - 97)) 297 25 ((F 297 25) + 1)) 297 22 ((F 297 22) + 0)) G h))) (by decide) [1, 0, 0, 0, 0] rfl ⟨⟨trivial, ⟨(by decide : R32 0), (by decide : (0 : Int) = (0 : Int))⟩⟩, ⟨Nat.le_of_ble_eq_true rfl, rfl, fun h => by cases h⟩⟩ ?_
                exact wp.weak (a := [some (vr 297), some (vi x1), some (vi (F 302 (F 297 22).toNat))]) ⟨rfl, rfl, rfl, trivial⟩ H
              · rw [if_neg c15] at H
                refine pt112 (s' := (18, [some (vj (F 302 (F 297 22).toNat)), none, some (vj 97), none, some (vj 108), none], [vi 1], (Wd S L (am_up (am_up F 312 (F 297 25).toNat (x2 - 97)) 297 25 ((F 297 25) + 1)) G h))) (by decide) [0, 0, 0] rfl ⟨trivial, ⟨y_cmp_r32, (fun e => c15 (y_cmp_gt.mp e))⟩⟩ ?_
                refine wp.fin (v := some (vi 1)) (by decide) am_m112 rfl ⟨_, rfl, Or.inr ⟨rfl, Or.inr rfl⟩, rfl⟩ ?_
                show wp 9 179 (117, [some (vr 297), some (vi x1), some (vi (F 302 (F 297 22).toNat))], [vi 1, vi (F 297 22), vr 297], (Wd S L (am_up (am_up F 312 (F 297 25).toNat (x2 - 97)) 297 25 ((F 297 25) + 1)) G h)) _
                obtain ⟨g16, H⟩ := H
                refine pt179 (s' := (126, [some (vr 297), some (vi x1), some (vi (F 302 (F 297 22).toNat))], [vi 6, vi ((F 297 25) + 1), vi (F 297 22), vr 297], (Wd S L (am_up (am_up F 312 (F 297 25).toNat (x2 - 97)) 297 25 ((F 297 25) + 1)) G h))) (by decide) [0, 0, 0, 0] rfl ⟨⟨trivial, ⟨(by decide : R32 1), (by decide : ¬ (1 : Int) = (0 : Int))⟩⟩, ⟨Nat.le_of_ble_eq_true rfl, rfl⟩⟩ ?_
                by_cases c17 : 6 ≤ ((F 297 25) + 1)
                · rw [if_pos c17] at H
                  refine pt179 (s' := (43, [some (vr 297), some (vi x1), some (vi (F 302 (F 297 22).toNat))], [], (Wd S L (am_up (am_up (am_up F 312 (F 297 25).toNat (x2 - 97)) 297 25 ((F 297 25) + 1)) 297 22 ((F 297 22) + 0)) G h))) (by decide) [1, 0, 0, 0, 0] rfl ⟨⟨trivial, ⟨⟨g16, (by decide : R32 6)⟩, c17⟩⟩, ⟨Nat.le_of_ble_eq_true rfl, rfl, fun h => by cases h⟩⟩ ?_
                  exact wp.weak (a := [some (vr 297), some (vi x1), some (vi (F 302 (F 297 22).toNat))]) ⟨rfl, rfl, rfl, trivial⟩ H
                · rw [if_neg c17] at H
                  refine pt179 (s' := (43, [some (vr 297), some (vi x1), some (vi (F 302 (F 297 22).toNat))], [], (Wd S L (am_up (am_up (am_up F 312 (F 297 25).toNat (x2 - 97)) 297 25 ((F 297 25) + 1)) 297 22 ((F 297 22) + 1)) G h))) (by decide) [0, 0, 0, 0, 0, 0] rfl ⟨⟨trivial, ⟨⟨g16, (by decide : R32 6)⟩, c17⟩⟩, ⟨Nat.le_of_ble_eq_true rfl, rfl, fun h => by cases h⟩⟩ ?_
                  exact wp.weak (a := [some (vr 297), some (vi x1), some (vi (F 302 (F 297 22).toNat))]) ⟨rfl, rfl, rfl, trivial⟩ H
  · rw [if_neg c2] at H
    refine pt179 (s' := (146, [some (vr 297), some (vi x1), some (vi x2)], [], (Wd S L (am_up F 297 24 x1) G h))) (by decide) [1, 0, 0, 0] rfl ⟨⟨trivial, ⟨g1, c2⟩⟩, ⟨Nat.le_of_ble_eq_true rfl, rfl, fun h => by cases h⟩⟩ ?_
    exact wp.fin (v := none) (by decide) am_m179 rfl ⟨rfl, rfl, rfl⟩ H
set_option maxRecDepth 100000 in
set_option maxHeartbeats 4000000 in
theorem T180_0 {S L : Nat} {F G : Nat → Nat → Int} {h : Nat → Nat → Option Nat} (hh : RfH h)   {Q : Option V2 → W2 → Prop}
    (H : C172_0  (Wd S L F G h) (fun v w1 => ∃ (v1 : Int) (F2 : Nat → Nat → Int), v = some (vi v1) ∧ w1 = (Wd S L F2 G h) ∧
  C180_7 0 v1 (Wd S L F2 G h) Q)) : C180_0  (Wd S L F G h) Q := by
  refine pt180 (s' := (3, [some (vr 297), some (vj 0), none, none], [vr 297], (Wd S L F G h))) (by decide) [0, 0, 0] rfl trivial ?_
  refine wp.cl am_m180 rfl am_m172 7 [vr 297] [] rfl (Nat.le_of_ble_eq_true rfl) (Nat.le_of_ble_eq_true rfl) rfl (Nat.le_of_ble_eq_true rfl) rfl (Nat.le_of_ble_eq_true rfl) (Nat.le_of_ble_eq_true rfl) ⟨_, _, rfl, Nat.le_of_ble_eq_true rfl, rfl⟩ ?_
  refine wp.mono H ?_
  rintro v w1 ⟨v1, F2, rfl, rfl, H⟩
  show wp 8 180 (6, [some (vr 297), some (vj 0), none, none], [vi v1], (Wd S L F2 G h)) _
  refine pt180 (s' := (7, [some (vr 297), some (vj 0), none, some (vi v1)], [], (Wd S L F2 G h))) (by decide) [0] rfl trivial ?_
  exact wp.weak (a := [some (vr 297), some (vj 0), none, some (vi v1)]) ⟨rfl, rfl, rfl, trivial⟩ H
set_option maxRecDepth 100000 in
set_option maxHeartbeats 4000000 in
theorem T180_7 {S L : Nat} {F G : Nat → Nat → Int} {h : Nat → Nat → Option Nat} (hh : RfH h) {x1 : Int} {x3 : Int}  {Q : Option V2 → W2 → Prop}
    (H : (R32 x3 ∧
 (if x3 < 97 then
  Q (some (vj x1)) (Wd S L F G h)
 else
  (if 122 < x3 then
   Q (some (vj x1)) (Wd S L F G h)
  else
   (R64 x1 ∧
   (if x1 ≤ 1000000000000 then
    (R32 ((F 297 22) + 1) ∧
    R32 (F 297 7) ∧
    (if (F 297 7) ≤ ((F 297 22) + 1) then
     C180_7 ((((27 * x1) + x3) - 97) + 1) 0 (Wd S L (am_up F 297 22 ((F 297 22) + 1)) G h) Q
    else
     ((0 ≤ ((F 297 22) + 1) ∧ ((F 297 22) + 1) < 90) ∧
     C180_7 ((((27 * x1) + x3) - 97) + 1) (F 302 ((F 297 22) + 1).toNat) (Wd S L (am_up F 297 22 ((F 297 22) + 1)) G h) Q)))
   else
    (R32 ((F 297 22) + 1) ∧
    R32 (F 297 7) ∧
    (if (F 297 7) ≤ ((F 297 22) + 1) then
     C180_7 x1 0 (Wd S L (am_up F 297 22 ((F 297 22) + 1)) G h) Q
    else
     ((0 ≤ ((F 297 22) + 1) ∧ ((F 297 22) + 1) < 90) ∧
     C180_7 x1 (F 302 ((F 297 22) + 1).toNat) (Wd S L (am_up F 297 22 ((F 297 22) + 1)) G h) Q))))))))) : C180_7 x1 x3 (Wd S L F G h) Q := by
  obtain ⟨g1, H⟩ := H
  refine pt180 (s' := (15, [some (vr 297), some (vj x1), none, some (vi x3)], [vj 122, vj 97, vj x3], (Wd S L F G h))) (by decide) [0, 0, 0, 0] rfl ⟨trivial, g1⟩ ?_
  refine wp.cl am_m180 rfl am_m112 6 [vj x3, vj 97, vj 122] [] rfl (Nat.le_of_ble_eq_true rfl) (Nat.le_of_ble_eq_true rfl) rfl (Nat.le_of_ble_eq_true rfl) rfl (Nat.le_of_ble_eq_true rfl) (Nat.le_of_ble_eq_true rfl) trivial ?_
  refine pt112 (s' := (3, [some (vj x3), none, some (vj 97), none, some (vj 122), none], [vi (y_cmp x3 97)], (Wd S L F G h))) (by decide) [0, 0, 0] rfl ⟨trivial, ⟨(r64 g1), (by decide : R64 97)⟩⟩ ?_
  by_cases c2 : x3 < 97
  · rw [if_pos c2] at H
    refine pt112 (s' := (18, [some (vj x3), none, some (vj 97), none, some (vj 122), none], [vi 0], (Wd S L F G h))) (by decide) [1, 0] rfl ⟨trivial, ⟨y_cmp_r32, (y_cmp_lt.mpr c2)⟩⟩ ?_
    refine wp.fin (v := some (vi 0)) (by decide) am_m112 rfl ⟨_, rfl, Or.inr ⟨rfl, Or.inl rfl⟩, rfl⟩ ?_
    show wp 8 180 (18, [some (vr 297), some (vj x1), none, some (vi x3)], [vi 0], (Wd S L F G h)) _
    refine pt180 (s' := (67, [some (vr 297), some (vj x1), none, some (vi x3)], [vj x1], (Wd S L F G h))) (by decide) [1, 0] rfl ⟨trivial, ⟨(by decide : R32 0), (by decide : (0 : Int) = (0 : Int))⟩⟩ ?_
    exact wp.fin (v := some (vj x1)) (by decide) am_m180 rfl ⟨_, rfl, rfl, rfl⟩ H
  · rw [if_neg c2] at H
    refine pt112 (s' := (10, [some (vj x3), none, some (vj 97), none, some (vj 122), none], [vi (y_cmp x3 122)], (Wd S L F G h))) (by decide) [0, 0, 0, 0] rfl ⟨⟨trivial, ⟨y_cmp_r32, (fun e => c2 (y_cmp_lt.mp e))⟩⟩, ⟨(r64 g1), (by decide : R64 122)⟩⟩ ?_
    by_cases c3 : 122 < x3
    · rw [if_pos c3] at H
      refine pt112 (s' := (18, [some (vj x3), none, some (vj 97), none, some (vj 122), none], [vi 0], (Wd S L F G h))) (by decide) [1, 0] rfl ⟨trivial, ⟨y_cmp_r32, (y_cmp_gt.mpr c3)⟩⟩ ?_
      refine wp.fin (v := some (vi 0)) (by decide) am_m112 rfl ⟨_, rfl, Or.inr ⟨rfl, Or.inl rfl⟩, rfl⟩ ?_
      show wp 8 180 (18, [some (vr 297), some (vj x1), none, some (vi x3)], [vi 0], (Wd S L F G h)) _
      refine pt180 (s' := (67, [some (vr 297), some (vj x1), none, some (vi x3)], [vj x1], (Wd S L F G h))) (by decide) [1, 0] rfl ⟨trivial, ⟨(by decide : R32 0), (by decide : (0 : Int) = (0 : Int))⟩⟩ ?_
      exact wp.fin (v := some (vj x1)) (by decide) am_m180 rfl ⟨_, rfl, rfl, rfl⟩ H
    · rw [if_neg c3] at H
      refine pt112 (s' := (18, [some (vj x3), none, some (vj 97), none, some (vj 122), none], [vi 1], (Wd S L F G h))) (by decide) [0, 0, 0] rfl ⟨trivial, ⟨y_cmp_r32, (fun e => c3 (y_cmp_gt.mp e))⟩⟩ ?_
      refine wp.fin (v := some (vi 1)) (by decide) am_m112 rfl ⟨_, rfl, Or.inr ⟨rfl, Or.inr rfl⟩, rfl⟩ ?_
      show wp 8 180 (18, [some (vr 297), some (vj x1), none, some (vi x3)], [vi 1], (Wd S L F G h)) _
      obtain ⟨g4, H⟩ := H
      refine pt180 (s' := (26, [some (vr 297), some (vj x1), none, some (vi x3)], [vi (y_cmp x1 1000000000000)], (Wd S L F G h))) (by decide) [0, 0, 0, 0] rfl ⟨⟨trivial, ⟨(by decide : R32 1), (by decide : ¬ (1 : Int) = (0 : Int))⟩⟩, ⟨g4, (by decide : R64 1000000000000)⟩⟩ ?_
      by_cases c5 : x1 ≤ 1000000000000
      · rw [if_pos c5] at H
        refine pt180 (s' := (59, [some (vr 297), some (vj ((((27 * x1) + x3) - 97) + 1)), none, some (vi x3)], [vr 297], (Wd S L (am_up F 297 22 ((F 297 22) + 1)) G h))) (by decide) [1, 0, 0, 0, 0, 0, 0, 0, 0, 0, 0, 0, 0, 0, 0, 0, 0, 0, 0] rfl ⟨⟨⟨⟨trivial, ⟨y_cmp_r32, (y_cmp_le.mpr c5)⟩⟩, g1⟩, ⟨Nat.le_of_ble_eq_true rfl, rfl⟩⟩, ⟨Nat.le_of_ble_eq_true rfl, rfl, fun h => by cases h⟩⟩ ?_
        refine wp.cl am_m180 rfl am_m173 6 [vr 297] [] rfl (Nat.le_of_ble_eq_true rfl) (Nat.le_of_ble_eq_true rfl) rfl (Nat.le_of_ble_eq_true rfl) rfl (Nat.le_of_ble_eq_true rfl) (Nat.le_of_ble_eq_true rfl) ⟨_, _, rfl, Nat.le_of_ble_eq_true rfl, rfl⟩ ?_
        obtain ⟨g6, H⟩ := H
        obtain ⟨g7, H⟩ := H
        refine pt173 (s' := (8, [some (vr 297)], [vi (F 297 7), vi ((F 297 22) + 1)], (Wd S L (am_up F 297 22 ((F 297 22) + 1)) G h))) (by decide) [0, 0, 0, 0] rfl ⟨⟨trivial, ⟨Nat.le_of_ble_eq_true rfl, rfl⟩⟩, ⟨Nat.le_of_ble_eq_true rfl, rfl⟩⟩ ?_
        by_cases c8 : (F 297 7) ≤ ((F 297 22) + 1)
        · rw [if_pos c8] at H
          refine pt173 (s' := (24, [some (vr 297)], [vi 0], (Wd S L (am_up F 297 22 ((F 297 22) + 1)) G h))) (by decide) [1, 0] rfl ⟨trivial, ⟨⟨g6, g7⟩, c8⟩⟩ ?_
          refine wp.fin (v := some (vi 0)) (by decide) am_m173 rfl ⟨_, rfl, Or.inl rfl, rfl⟩ ?_
          show wp 8 180 (62, [some (vr 297), some (vj ((((27 * x1) + x3) - 97) + 1)), none, some (vi x3)], [vi 0], (Wd S L (am_up F 297 22 ((F 297 22) + 1)) G h)) _
          refine pt180 (s' := (7, [some (vr 297), some (vj ((((27 * x1) + x3) - 97) + 1)), none, some (vi 0)], [], (Wd S L (am_up F 297 22 ((F 297 22) + 1)) G h))) (by decide) [0, 0] rfl trivial ?_
          exact wp.weak (a := [some (vr 297), some (vj ((((27 * x1) + x3) - 97) + 1)), none, some (vi 0)]) ⟨rfl, rfl, rfl, trivial⟩ H
        · rw [if_neg c8] at H
          obtain ⟨g9, H⟩ := H
          refine pt173 (s' := (24, [some (vr 297)], [vi (F 302 ((F 297 22) + 1).toNat)], (Wd S L (am_up F 297 22 ((F 297 22) + 1)) G h))) (by decide) [0, 0, 302, 0, 0, 0, 0] rfl ⟨⟨⟨⟨trivial, ⟨⟨g6, g7⟩, c8⟩⟩, ⟨Nat.le_of_ble_eq_true rfl, rfl, hh _ _ _ rfl⟩⟩, ⟨Nat.le_of_ble_eq_true rfl, rfl⟩⟩, (ix ⟨Nat.le_of_ble_eq_true rfl, rfl⟩ g9)⟩ ?_
          refine wp.fin (v := some (vi (F 302 ((F 297 22) + 1).toNat))) (by decide) am_m173 rfl ⟨_, rfl, Or.inl rfl, rfl⟩ ?_
          show wp 8 180 (62, [some (vr 297), some (vj ((((27 * x1) + x3) - 97) + 1)), none, some (vi x3)], [vi (F 302 ((F 297 22) + 1).toNat)], (Wd S L (am_up F 297 22 ((F 297 22) + 1)) G h)) _
          refine pt180 (s' := (7, [some (vr 297), some (vj ((((27 * x1) + x3) - 97) + 1)), none, some (vi (F 302 ((F 297 22) + 1).toNat))], [], (Wd S L (am_up F 297 22 ((F 297 22) + 1)) G h))) (by decide) [0, 0] rfl trivial ?_
          exact wp.weak (a := [some (vr 297), some (vj ((((27 * x1) + x3) - 97) + 1)), none, some (vi (F 302 ((F 297 22) + 1).toNat))]) ⟨rfl, rfl, rfl, trivial⟩ H
      · rw [if_neg c5] at H
        refine pt180 (s' := (59, [some (vr 297), some (vj x1), none, some (vi x3)], [vr 297], (Wd S L (am_up F 297 22 ((F 297 22) + 1)) G h))) (by decide) [0, 0, 0, 0, 0, 0, 0, 0, 0, 0, 0] rfl ⟨⟨⟨trivial, ⟨y_cmp_r32, (fun e => c5 (y_cmp_le.mp e))⟩⟩, ⟨Nat.le_of_ble_eq_true rfl, rfl⟩⟩, ⟨Nat.le_of_ble_eq_true rfl, rfl, fun h => by cases h⟩⟩ ?_
        refine wp.cl am_m180 rfl am_m173 6 [vr 297] [] rfl (Nat.le_of_ble_eq_true rfl) (Nat.le_of_ble_eq_true rfl) rfl (Nat.le_of_ble_eq_true rfl) rfl (Nat.le_of_ble_eq_true rfl) (Nat.le_of_ble_eq_true rfl) ⟨_, _, rfl, Nat.le_of_ble_eq_true rfl, rfl⟩ ?_
        obtain ⟨g10, H⟩ := H
        obtain ⟨g11, H⟩ := H
        refine pt173 (s' := (8, [some (vr 297)], [vi (F 297 7), vi ((F 297 22) + 1)], (Wd S L (am_up F 297 22 ((F 297 22) + 1)) G h))) (by decide) [0, 0, 0, 0] rfl ⟨⟨trivial, ⟨Nat.le_of_ble_eq_true rfl, rfl⟩⟩, ⟨Nat.le_of_ble_eq_true rfl, rfl⟩⟩ ?_
        by_cases c12 : (F 297 7) ≤ ((F 297 22) + 1)
        · rw [if_pos c12] at H
          refine pt173 (s' := (24, [some (vr 297)], [vi 0], (Wd S L (am_up F 297 22 ((F 297 22) + 1)) G h))) (by decide) [1, 0] rfl ⟨trivial, ⟨⟨g10, g11⟩, c12⟩⟩ ?_
          refine wp.fin (v := some (vi 0)) (by decide) am_m173 rfl ⟨_, rfl, Or.inl rfl, rfl⟩ ?_
          show wp 8 180 (62, [some (vr 297), some (vj x1), none, some (vi x3)], [vi 0], (Wd S L (am_up F 297 22 ((F 297 22) + 1)) G h)) _
          refine pt180 (s' := (7, [some (vr 297), some (vj x1), none, some (vi 0)], [], (Wd S L (am_up F 297 22 ((F 297 22) + 1)) G h))) (by decide) [0, 0] rfl trivial ?_
          exact wp.weak (a := [some (vr 297), some (vj x1), none, some (vi 0)]) ⟨rfl, rfl, rfl, trivial⟩ H
        · rw [if_neg c12] at H
          obtain ⟨g13, H⟩ := H
          refine pt173 (s' := (24, [some (vr 297)], [vi (F 302 ((F 297 22) + 1).toNat)], (Wd S L (am_up F 297 22 ((F 297 22) + 1)) G h))) (by decide) [0, 0, 302, 0, 0, 0, 0] rfl ⟨⟨⟨⟨trivial, ⟨⟨g10, g11⟩, c12⟩⟩, ⟨Nat.le_of_ble_eq_true rfl, rfl, hh _ _ _ rfl⟩⟩, ⟨Nat.le_of_ble_eq_true rfl, rfl⟩⟩, (ix ⟨Nat.le_of_ble_eq_true rfl, rfl⟩ g13)⟩ ?_
          refine wp.fin (v := some (vi (F 302 ((F 297 22) + 1).toNat))) (by decide) am_m173 rfl ⟨_, rfl, Or.inl rfl, rfl⟩ ?_
          show wp 8 180 (62, [some (vr 297), some (vj x1), none, some (vi x3)], [vi (F 302 ((F 297 22) + 1).toNat)], (Wd S L (am_up F 297 22 ((F 297 22) + 1)) G h)) _
          refine pt180 (s' := (7, [some (vr 297), some (vj x1), none, some (vi (F 302 ((F 297 22) + 1).toNat))], [], (Wd S L (am_up F 297 22 ((F 297 22) + 1)) G h))) (by decide) [0, 0] rfl trivial ?_
          exact wp.weak (a := [some (vr 297), some (vj x1), none, some (vi (F 302 ((F 297 22) + 1).toNat))]) ⟨rfl, rfl, rfl, trivial⟩ H
set_option maxRecDepth 100000 in
set_option maxHeartbeats 4000000 in
theorem T181_0 {S L : Nat} {F G : Nat → Nat → Int} {h : Nat → Nat → Option Nat} (hh : RfH h)   {Q : Option V2 → W2 → Prop}
    (H : C181_4 0 0 (Wd S L F G h) Q) : C181_0  (Wd S L F G h) Q := by
  refine pt181 (s' := (4, [some (vr 297), some (vi 0), some (vi 0)], [], (Wd S L F G h))) (by decide) [0, 0, 0, 0] rfl trivial ?_
  exact wp.weak (a := [some (vr 297), some (vi 0), some (vi 0)]) ⟨rfl, rfl, rfl, trivial⟩ H
set_option maxRecDepth 100000 in
set_option maxHeartbeats 4000000 in
theorem T181_4 {S L : Nat} {F G : Nat → Nat → Int} {h : Nat → Nat → Option Nat} (hh : RfH h) {x1 : Int} {x2 : Int}  {Q : Option V2 → W2 → Prop}
    (H : (R32 x2 ∧
 R32 (F 297 25) ∧
 (if (F 297 25) ≤ x2 then
  C119_0 x1 (F 298 2) (F 298 3) (Wd S L F G h) (fun v w1 => ∃ (v4 : Int), v = some (vi v4) ∧ w1 = (Wd S L F G h) ∧
   (R32 v4 ∧
   (if v4 ≤ 100 then
    C181_67 0 (Wd S L (am_up F 298 0 (F 297 25)) G h) Q
   else
    Q (some (vi (-3))) (Wd S L F G h))))
 else
  ((0 ≤ ((2 * x2) + 1) ∧ ((2 * x2) + 1) < 24) ∧
  C181_4 (x1 + (F 312 ((2 * x2) + 1).toNat)) (x2 + 1) (Wd S L F G h) Q)))) : C181_4 x1 x2 (Wd S L F G h) Q := by
  obtain ⟨g1, H⟩ := H
  obtain ⟨g2, H⟩ := H
  refine pt181 (s' := (9, [some (vr 297), some (vi x1), some (vi x2)], [vi (F 297 25), vi x2], (Wd S L F G h))) (by decide) [0, 0, 0] rfl ⟨trivial, ⟨Nat.le_of_ble_eq_true rfl, rfl⟩⟩ ?_
  by_cases c3 : (F 297 25) ≤ x2
  · rw [if_pos c3] at H
    refine pt181 (s' := (44, [some (vr 297), some (vi x1), some (vi x2)], [vi (F 298 3), vi (F 298 2), vi x1], (Wd S L F G h))) (by decide) [1, 0, 0, 298, 0, 0, 0, 298, 0, 0] rfl ⟨⟨⟨⟨⟨trivial, ⟨⟨g1, g2⟩, c3⟩⟩, ⟨Nat.le_of_ble_eq_true rfl, rfl, hh _ _ _ rfl⟩⟩, (ix ⟨Nat.le_of_ble_eq_true rfl, rfl⟩ (by decide : (0 : Int) ≤ 2 ∧ (2 : Int) < 134))⟩, ⟨Nat.le_of_ble_eq_true rfl, rfl, hh _ _ _ rfl⟩⟩, (ix ⟨Nat.le_of_ble_eq_true rfl, rfl⟩ (by decide : (0 : Int) ≤ 3 ∧ (3 : Int) < 134))⟩ ?_
    refine wp.cl am_m181 rfl am_m119 6 [vi x1, vi (F 298 2), vi (F 298 3)] [] rfl (Nat.le_of_ble_eq_true rfl) (Nat.le_of_ble_eq_true rfl) rfl (Nat.le_of_ble_eq_true rfl) rfl (Nat.le_of_ble_eq_true rfl) (Nat.le_of_ble_eq_true rfl) trivial ?_
    refine wp.mono H ?_
    rintro v w1 ⟨v4, rfl, rfl, H⟩
    show wp 7 181 (47, [some (vr 297), some (vi x1), some (vi x2)], [vi v4], (Wd S L F G h)) _
    obtain ⟨g5, H⟩ := H
    refine pt181 (s' := (49, [some (vr 297), some (vi x1), some (vi x2)], [vi 100, vi v4], (Wd S L F G h))) (by decide) [0] rfl trivial ?_
    by_cases c6 : v4 ≤ 100
    · rw [if_pos c6] at H
      refine pt181 (s' := (67, [some (vr 297), some (vi x1), some (vi 0)], [], (Wd S L (am_up F 298 0 (F 297 25)) G h))) (by decide) [1, 0, 298, 0, 0, 0, 0, 0, 0] rfl ⟨⟨⟨⟨trivial, ⟨⟨g5, (by decide : R32 100)⟩, c6⟩⟩, ⟨Nat.le_of_ble_eq_true rfl, rfl, hh _ _ _ rfl⟩⟩, ⟨Nat.le_of_ble_eq_true rfl, rfl⟩⟩, (ix ⟨Nat.le_of_ble_eq_true rfl, rfl⟩ (by decide : (0 : Int) ≤ 0 ∧ (0 : Int) < 134))⟩ ?_
      exact wp.weak (a := [some (vr 297), none, some (vi 0)]) ⟨rfl, rfl, trivial⟩ H
    · rw [if_neg c6] at H
      refine pt181 (s' := (54, [some (vr 297), some (vi x1), some (vi x2)], [vi (-3)], (Wd S L F G h))) (by decide) [0, 0] rfl ⟨trivial, ⟨⟨g5, (by decide : R32 100)⟩, c6⟩⟩ ?_
      exact wp.fin (v := some (vi (-3))) (by decide) am_m181 rfl ⟨_, rfl, Or.inl rfl, rfl⟩ H
  · rw [if_neg c3] at H
    obtain ⟨g7, H⟩ := H
    refine pt181 (s' := (4, [some (vr 297), some (vi (x1 + (F 312 ((2 * x2) + 1).toNat))), some (vi (x2 + 1))], [], (Wd S L F G h))) (by decide) [0, 0, 0, 312, 0, 0, 0, 0, 0, 0, 0, 0, 0, 0] rfl ⟨⟨⟨trivial, ⟨⟨g1, g2⟩, c3⟩⟩, ⟨Nat.le_of_ble_eq_true rfl, rfl, hh _ _ _ rfl⟩⟩, (ix ⟨Nat.le_of_ble_eq_true rfl, rfl⟩ g7)⟩ ?_
    exact wp.weak (a := [some (vr 297), some (vi (x1 + (F 312 ((2 * x2) + 1).toNat))), some (vi (x2 + 1))]) ⟨rfl, rfl, rfl, trivial⟩ H
set_option maxRecDepth 100000 in
set_option maxHeartbeats 4000000 in
theorem T181_67 {S L : Nat} {F G : Nat → Nat → Int} {h : Nat → Nat → Option Nat} (hh : RfH h) {x2 : Int}  {Q : Option V2 → W2 → Prop}
    (H : (R32 x2 ∧
 R32 (F 297 25) ∧
 (if (F 297 25) ≤ x2 then
  Q (some (vi (F 297 25))) (Wd S L F G h)
 else
  ((0 ≤ (2 * x2) ∧ (2 * x2) < 24) ∧
  (0 ≤ (46 + x2) ∧ (46 + x2) < 134) ∧
  (0 ≤ ((2 * x2) + 1) ∧ ((2 * x2) + 1) < 24) ∧
  (0 ≤ (58 + x2) ∧ (58 + x2) < 134) ∧
  C181_67 (x2 + 1) (Wd S L (am_up (am_up F 298 (46 + x2).toNat (F 312 (2 * x2).toNat)) 298 (58 + x2).toNat (F 312 ((2 * x2) + 1).toNat)) G h) Q)))) : C181_67 x2 (Wd S L F G h) Q := by
  obtain ⟨g1, H⟩ := H
  obtain ⟨g2, H⟩ := H
  refine pt181 (s' := (72, [some (vr 297), none, some (vi x2)], [vi (F 297 25), vi x2], (Wd S L F G h))) (by decide) [0, 0, 0] rfl ⟨trivial, ⟨Nat.le_of_ble_eq_true rfl, rfl⟩⟩ ?_
  by_cases c3 : (F 297 25) ≤ x2
  · rw [if_pos c3] at H
    refine pt181 (s' := (121, [some (vr 297), none, some (vi x2)], [vi (F 297 25)], (Wd S L F G h))) (by decide) [1, 0, 0] rfl ⟨⟨trivial, ⟨⟨g1, g2⟩, c3⟩⟩, ⟨Nat.le_of_ble_eq_true rfl, rfl⟩⟩ ?_
    exact wp.fin (v := some (vi (F 297 25))) (by decide) am_m181 rfl ⟨_, rfl, Or.inl rfl, rfl⟩ H
  · rw [if_neg c3] at H
    obtain ⟨g4, H⟩ := H
    obtain ⟨g5, H⟩ := H
    obtain ⟨g6, H⟩ := H
    obtain ⟨g7, H⟩ := H
    refine pt181 (s' := (67, [some (vr 297), none, some (vi (x2 + 1))], [], (Wd S L (am_up (am_up F 298 (46 + x2).toNat (F 312 (2 * x2).toNat)) 298 (58 + x2).toNat (F 312 ((2 * x2) + 1).toNat)) G h))) (by decide) [0, 0, 298, 0, 0, 0, 0, 312, 0, 0, 0, 0, 0, 0, 298, 0, 0, 0, 0, 312, 0, 0, 0, 0, 0, 0, 0, 0, 0] rfl ⟨⟨⟨⟨⟨⟨⟨⟨⟨trivial, ⟨⟨g1, g2⟩, c3⟩⟩, ⟨Nat.le_of_ble_eq_true rfl, rfl, hh _ _ _ rfl⟩⟩, ⟨Nat.le_of_ble_eq_true rfl, rfl, hh _ _ _ rfl⟩⟩, (ix ⟨Nat.le_of_ble_eq_true rfl, rfl⟩ g4)⟩, (ix ⟨Nat.le_of_ble_eq_true rfl, rfl⟩ g5)⟩, ⟨Nat.le_of_ble_eq_true rfl, rfl, hh _ _ _ rfl⟩⟩, ⟨Nat.le_of_ble_eq_true rfl, rfl, hh _ _ _ rfl⟩⟩, (ix ⟨Nat.le_of_ble_eq_true rfl, rfl⟩ g6)⟩, (ix ⟨Nat.le_of_ble_eq_true rfl, rfl⟩ g7)⟩ ?_
    exact wp.weak (a := [some (vr 297), none, some (vi (x2 + 1))]) ⟨rfl, rfl, trivial⟩ H
set_option maxRecDepth 100000 in
set_option maxHeartbeats 4000000 in
theorem T182_0 {S L : Nat} {F G : Nat → Nat → Int} {h : Nat → Nat → Option Nat} (hh : RfH h) {a1 : Int}  {Q : Option V2 → W2 → Prop}
    (H : ((0 ≤ ((70 + (8 * a1)) + 1) ∧ ((70 + (8 * a1)) + 1) < 134) ∧
 R32 (F 298 ((70 + (8 * a1)) + 1).toNat) ∧
 R32 (F 297 25) ∧
 (if (F 298 ((70 + (8 * a1)) + 1).toNat) = (F 297 25) then
  C182_20 a1 1 0 (Wd S L F G h) Q
 else
  C182_20 a1 0 0 (Wd S L F G h) Q))) : C182_0 a1 (Wd S L F G h) Q := by
  refine pt182 (s' := (2, [some (vr 297), some (vi a1), none, none], [vi a1, vr 297], (Wd S L F G h))) (by decide) [0, 0] rfl trivial ?_
  refine wp.cl am_m182 rfl am_m144 6 [vr 297, vi a1] [] rfl (Nat.le_of_ble_eq_true rfl) (Nat.le_of_ble_eq_true rfl) rfl (Nat.le_of_ble_eq_true rfl) rfl (Nat.le_of_ble_eq_true rfl) (Nat.le_of_ble_eq_true rfl) ⟨_, _, rfl, Nat.le_of_ble_eq_true rfl, rfl⟩ ?_
  obtain ⟨g1, H⟩ := H
  refine pt144 (s' := (14, [some (vr 297), some (vi a1)], [vi (F 298 ((70 + (8 * a1)) + 1).toNat)], (Wd S L F G h))) (by decide) [0, 298, 0, 0, 0, 0, 0, 0, 0, 0] rfl ⟨⟨trivial, ⟨Nat.le_of_ble_eq_true rfl, rfl, hh _ _ _ rfl⟩⟩, (ix ⟨Nat.le_of_ble_eq_true rfl, rfl⟩ g1)⟩ ?_
  refine wp.fin (v := some (vi (F 298 ((70 + (8 * a1)) + 1).toNat))) (by decide) am_m144 rfl ⟨_, rfl, Or.inl rfl, rfl⟩ ?_
  show wp 7 182 (5, [some (vr 297), some (vi a1), none, none], [vi (F 298 ((70 + (8 * a1)) + 1).toNat)], (Wd S L F G h)) _
  obtain ⟨g2, H⟩ := H
  obtain ⟨g3, H⟩ := H
  refine pt182 (s' := (9, [some (vr 297), some (vi a1), none, none], [vi (F 297 25), vi (F 298 ((70 + (8 * a1)) + 1).toNat)], (Wd S L F G h))) (by decide) [0, 0] rfl ⟨trivial, ⟨Nat.le_of_ble_eq_true rfl, rfl⟩⟩ ?_
  by_cases c4 : (F 298 ((70 + (8 * a1)) + 1).toNat) = (F 297 25)
  · rw [if_pos c4] at H
    refine pt182 (s' := (20, [some (vr 297), some (vi a1), some (vi 1), some (vi 0)], [], (Wd S L F G h))) (by decide) [0, 0, 0, 0, 0, 0] rfl ⟨trivial, ⟨⟨g2, g3⟩, c4⟩⟩ ?_
    exact wp.weak (a := [some (vr 297), some (vi a1), some (vi 1), some (vi 0)]) ⟨rfl, rfl, rfl, rfl, trivial⟩ H
  · rw [if_neg c4] at H
    refine pt182 (s' := (20, [some (vr 297), some (vi a1), some (vi 0), some (vi 0)], [], (Wd S L F G h))) (by decide) [1, 0, 0, 0, 0] rfl ⟨trivial, ⟨⟨g2, g3⟩, c4⟩⟩ ?_
    exact wp.weak (a := [some (vr 297), some (vi a1), some (vi 0), some (vi 0)]) ⟨rfl, rfl, rfl, rfl, trivial⟩ H
set_option maxRecDepth 100000 in
set_option maxHeartbeats 4000000 in
theorem T182_20 {S L : Nat} {F G : Nat → Nat → Int} {h : Nat → Nat → Option Nat} (hh : RfH h) {x1 : Int} {x2 : Int} {x3 : Int}  {Q : Option V2 → W2 → Prop}
    (H : (R32 x3 ∧
 R32 (F 297 25) ∧
 (if (F 297 25) ≤ x3 then
  ((x2 = 0 ∨ x2 = 1) ∧
  Q (some (vi x2)) (Wd S L F G h))
 else
  (R32 x2 ∧
  (if x2 = 0 then
   ((x2 = 0 ∨ x2 = 1) ∧
   Q (some (vi x2)) (Wd S L F G h))
  else
   ((0 ≤ (((70 + (8 * x1)) + 2) + x3) ∧ (((70 + (8 * x1)) + 2) + x3) < 134) ∧
   (0 ≤ x3 ∧ x3 < 24) ∧
   R32 (F 298 (((70 + (8 * x1)) + 2) + x3).toNat) ∧
   R32 (F 312 x3.toNat) ∧
   (if (F 298 (((70 + (8 * x1)) + 2) + x3).toNat) = (F 312 x3.toNat) then
    C182_20 x1 1 (x3 + 1) (Wd S L F G h) Q
   else
    C182_20 x1 0 (x3 + 1) (Wd S L F G h) Q))))))) : C182_20 x1 x2 x3 (Wd S L F G h) Q := by
  obtain ⟨g1, H⟩ := H
  obtain ⟨g2, H⟩ := H
  refine pt182 (s' := (25, [some (vr 297), some (vi x1), some (vi x2), some (vi x3)], [vi (F 297 25), vi x3], (Wd S L F G h))) (by decide) [0, 0, 0] rfl ⟨trivial, ⟨Nat.le_of_ble_eq_true rfl, rfl⟩⟩ ?_
  by_cases c3 : (F 297 25) ≤ x3
  · rw [if_pos c3] at H
    refine pt182 (s' := (60, [some (vr 297), some (vi x1), some (vi x2), some (vi x3)], [vi x2], (Wd S L F G h))) (by decide) [1, 0] rfl ⟨trivial, ⟨⟨g1, g2⟩, c3⟩⟩ ?_
    obtain ⟨g4, H⟩ := H
    exact wp.fin (v := some (vi x2)) (by decide) am_m182 rfl ⟨_, rfl, Or.inr ⟨rfl, g4⟩, rfl⟩ H
  · rw [if_neg c3] at H
    obtain ⟨g5, H⟩ := H
    refine pt182 (s' := (29, [some (vr 297), some (vi x1), some (vi x2), some (vi x3)], [vi x2], (Wd S L F G h))) (by decide) [0, 0] rfl ⟨trivial, ⟨⟨g1, g2⟩, c3⟩⟩ ?_
    by_cases c6 : x2 = 0
    · rw [if_pos c6] at H
      refine pt182 (s' := (60, [some (vr 297), some (vi x1), some (vi x2), some (vi x3)], [vi x2], (Wd S L F G h))) (by decide) [1, 0] rfl ⟨trivial, ⟨g5, c6⟩⟩ ?_
      obtain ⟨g7, H⟩ := H
      exact wp.fin (v := some (vi x2)) (by decide) am_m182 rfl ⟨_, rfl, Or.inr ⟨rfl, g7⟩, rfl⟩ H
    · rw [if_neg c6] at H
      refine pt182 (s' := (35, [some (vr 297), some (vi x1), some (vi x2), some (vi x3)], [vi x3, vi x1, vr 297], (Wd S L F G h))) (by decide) [0, 0, 0, 0] rfl ⟨trivial, ⟨g5, c6⟩⟩ ?_
      refine wp.cl am_m182 rfl am_m145 6 [vr 297, vi x1, vi x3] [] rfl (Nat.le_of_ble_eq_true rfl) (Nat.le_of_ble_eq_true rfl) rfl (Nat.le_of_ble_eq_true rfl) rfl (Nat.le_of_ble_eq_true rfl) (Nat.le_of_ble_eq_true rfl) ⟨_, _, rfl, Nat.le_of_ble_eq_true rfl, rfl⟩ ?_
      obtain ⟨g8, H⟩ := H
      refine pt145 (s' := (16, [some (vr 297), some (vi x1), some (vi x3)], [vi (F 298 (((70 + (8 * x1)) + 2) + x3).toNat)], (Wd S L F G h))) (by decide) [0, 298, 0, 0, 0, 0, 0, 0, 0, 0, 0, 0] rfl ⟨⟨trivial, ⟨Nat.le_of_ble_eq_true rfl, rfl, hh _ _ _ rfl⟩⟩, (ix ⟨Nat.le_of_ble_eq_true rfl, rfl⟩ g8)⟩ ?_
      refine wp.fin (v := some (vi (F 298 (((70 + (8 * x1)) + 2) + x3).toNat))) (by decide) am_m145 rfl ⟨_, rfl, Or.inl rfl, rfl⟩ ?_
      show wp 7 182 (38, [some (vr 297), some (vi x1), some (vi x2), some (vi x3)], [vi (F 298 (((70 + (8 * x1)) + 2) + x3).toNat)], (Wd S L F G h)) _
      obtain ⟨g9, H⟩ := H
      obtain ⟨g10, H⟩ := H
      obtain ⟨g11, H⟩ := H
      refine pt182 (s' := (44, [some (vr 297), some (vi x1), some (vi x2), some (vi x3)], [vi (F 312 x3.toNat), vi (F 298 (((70 + (8 * x1)) + 2) + x3).toNat)], (Wd S L F G h))) (by decide) [0, 312, 0, 0] rfl ⟨⟨trivial, ⟨Nat.le_of_ble_eq_true rfl, rfl, hh _ _ _ rfl⟩⟩, (ix ⟨Nat.le_of_ble_eq_true rfl, rfl⟩ g9)⟩ ?_
      by_cases c12 : (F 298 (((70 + (8 * x1)) + 2) + x3).toNat) = (F 312 x3.toNat)
      · rw [if_pos c12] at H
        refine pt182 (s' := (20, [some (vr 297), some (vi x1), some (vi 1), some (vi (x3 + 1))], [], (Wd S L F G h))) (by decide) [0, 0, 0, 0, 0, 0] rfl ⟨trivial, ⟨⟨g10, g11⟩, c12⟩⟩ ?_
        exact wp.weak (a := [some (vr 297), some (vi x1), some (vi 1), some (vi (x3 + 1))]) ⟨rfl, rfl, rfl, rfl, trivial⟩ H
      · rw [if_neg c12] at H
        refine pt182 (s' := (20, [some (vr 297), some (vi x1), some (vi 0), some (vi (x3 + 1))], [], (Wd S L F G h))) (by decide) [1, 0, 0, 0, 0] rfl ⟨trivial, ⟨⟨g10, g11⟩, c12⟩⟩ ?_
        exact wp.weak (a := [some (vr 297), some (vi x1), some (vi 0), some (vi (x3 + 1))]) ⟨rfl, rfl, rfl, rfl, trivial⟩ H
set_option maxRecDepth 100000 in
set_option maxHeartbeats 4000000 in
theorem T183_0 {S L : Nat} {F G : Nat → Nat → Int} {h : Nat → Nat → Option Nat} (hh : RfH h) {a1 : Int}  {Q : Option V2 → W2 → Prop}
    (H : C183_2 a1 0 (Wd S L F G h) Q) : C183_0 a1 (Wd S L F G h) Q := by
  refine pt183 (s' := (2, [some (vr 297), some (vi a1), some (vi 0), none], [], (Wd S L F G h))) (by decide) [0, 0] rfl trivial ?_
  exact wp.weak (a := [some (vr 297), some (vi a1), some (vi 0), none]) ⟨rfl, rfl, rfl, trivial⟩ H
set_option maxRecDepth 100000 in
set_option maxHeartbeats 4000000 in
theorem T183_2 {S L : Nat} {F G : Nat → Nat → Int} {h : Nat → Nat → Option Nat} (hh : RfH h) {x1 : Int} {x2 : Int}  {Q : Option V2 → W2 → Prop}
    (H : (R32 x2 ∧
 R32 (F 298 1) ∧
 (if (F 298 1) ≤ x2 then
  (if (F 298 1) = 8 then
   Q (some (vi (-3))) (Wd S L F G h)
  else
   ((0 ≤ (70 + (8 * (F 298 1))) ∧ (70 + (8 * (F 298 1))) < 134) ∧
   (0 ≤ ((70 + (8 * (F 298 1))) + 1) ∧ ((70 + (8 * (F 298 1))) + 1) < 134) ∧
   C183_77 (70 + (8 * (F 298 1))) 0 (Wd S L (am_up (am_up F 298 (70 + (8 * (F 298 1))).toNat x1) 298 ((70 + (8 * (F 298 1))) + 1).toNat (F 297 25)) G h) Q))
 else
  C182_0 x2 (Wd S L F G h) (fun v w1 => ∃ (v7 : Int), v = some (vi v7) ∧ w1 = (Wd S L F G h) ∧
   (R32 v7 ∧
   (if v7 = 0 then
    C183_2 x1 (x2 + 1) (Wd S L F G h) Q
   else
    Q (some (vi (-2))) (Wd S L F G h))))))) : C183_2 x1 x2 (Wd S L F G h) Q := by
  obtain ⟨g1, H⟩ := H
  obtain ⟨g2, H⟩ := H
  refine pt183 (s' := (9, [some (vr 297), some (vi x1), some (vi x2), none], [vi (F 298 1), vi x2], (Wd S L F G h))) (by decide) [0, 0, 298, 0, 0] rfl ⟨⟨trivial, ⟨Nat.le_of_ble_eq_true rfl, rfl, hh _ _ _ rfl⟩⟩, (ix ⟨Nat.le_of_ble_eq_true rfl, rfl⟩ (by decide : (0 : Int) ≤ 1 ∧ (1 : Int) < 134))⟩ ?_
  by_cases c3 : (F 298 1) ≤ x2
  · rw [if_pos c3] at H
    refine pt183 (s' := (37, [some (vr 297), some (vi x1), some (vi x2), none], [vi 8, vi (F 298 1)], (Wd S L F G h))) (by decide) [1, 0, 298, 0, 0, 0] rfl ⟨⟨⟨trivial, ⟨⟨g1, g2⟩, c3⟩⟩, ⟨Nat.le_of_ble_eq_true rfl, rfl, hh _ _ _ rfl⟩⟩, (ix ⟨Nat.le_of_ble_eq_true rfl, rfl⟩ (by decide : (0 : Int) ≤ 1 ∧ (1 : Int) < 134))⟩ ?_
    by_cases c4 : (F 298 1) = 8
    · rw [if_pos c4] at H
      refine pt183 (s' := (42, [some (vr 297), some (vi x1), some (vi x2), none], [vi (-3)], (Wd S L F G h))) (by decide) [0, 0] rfl ⟨trivial, ⟨⟨g2, (by decide : R32 8)⟩, c4⟩⟩ ?_
      exact wp.fin (v := some (vi (-3))) (by decide) am_m183 rfl ⟨_, rfl, Or.inl rfl, rfl⟩ H
    · rw [if_neg c4] at H
      obtain ⟨g5, H⟩ := H
      obtain ⟨g6, H⟩ := H
      refine pt183 (s' := (77, [some (vr 297), some (vi x1), some (vi (70 + (8 * (F 298 1)))), some (vi 0)], [], (Wd S L (am_up (am_up F 298 (70 + (8 * (F 298 1))).toNat x1) 298 ((70 + (8 * (F 298 1))) + 1).toNat (F 297 25)) G h))) (by decide) [1, 0, 0, 0, 298, 0, 0, 0, 0, 0, 0, 298, 0, 0, 0, 0, 298, 0, 0, 0, 0, 0, 0, 0, 0] rfl ⟨⟨⟨⟨⟨⟨⟨⟨trivial, ⟨⟨g2, (by decide : R32 8)⟩, c4⟩⟩, ⟨Nat.le_of_ble_eq_true rfl, rfl, hh _ _ _ rfl⟩⟩, (ix ⟨Nat.le_of_ble_eq_true rfl, rfl⟩ (by decide : (0 : Int) ≤ 1 ∧ (1 : Int) < 134))⟩, ⟨Nat.le_of_ble_eq_true rfl, rfl, hh _ _ _ rfl⟩⟩, (ix ⟨Nat.le_of_ble_eq_true rfl, rfl⟩ g5)⟩, ⟨Nat.le_of_ble_eq_true rfl, rfl, hh _ _ _ rfl⟩⟩, ⟨Nat.le_of_ble_eq_true rfl, rfl⟩⟩, (ix ⟨Nat.le_of_ble_eq_true rfl, rfl⟩ g6)⟩ ?_
      exact wp.weak (a := [some (vr 297), none, some (vi (70 + (8 * (F 298 1)))), some (vi 0)]) ⟨rfl, rfl, rfl, trivial⟩ H
  · rw [if_neg c3] at H
    refine pt183 (s' := (14, [some (vr 297), some (vi x1), some (vi x2), none], [vi x2, vr 297], (Wd S L F G h))) (by decide) [0, 0, 0] rfl ⟨trivial, ⟨⟨g1, g2⟩, c3⟩⟩ ?_
    refine wp.cl am_m183 rfl am_m182 7 [vr 297, vi x2] [] rfl (Nat.le_of_ble_eq_true rfl) (Nat.le_of_ble_eq_true rfl) rfl (Nat.le_of_ble_eq_true rfl) rfl (Nat.le_of_ble_eq_true rfl) (Nat.le_of_ble_eq_true rfl) ⟨_, _, rfl, Nat.le_of_ble_eq_true rfl, rfl⟩ ?_
    refine wp.mono H ?_
    rintro v w1 ⟨v7, rfl, rfl, H⟩
    show wp 8 183 (17, [some (vr 297), some (vi x1), some (vi x2), none], [vi v7], (Wd S L F G h)) _
    obtain ⟨g8, H⟩ := H
    by_cases c9 : v7 = 0
    · rw [if_pos c9] at H
      refine pt183 (s' := (2, [some (vr 297), some (vi x1), some (vi (x2 + 1)), none], [], (Wd S L F G h))) (by decide) [1, 0, 0] rfl ⟨trivial, ⟨g8, c9⟩⟩ ?_
      exact wp.weak (a := [some (vr 297), some (vi x1), some (vi (x2 + 1)), none]) ⟨rfl, rfl, rfl, trivial⟩ H
    · rw [if_neg c9] at H
      refine pt183 (s' := (22, [some (vr 297), some (vi x1), some (vi x2), none], [vi (-2)], (Wd S L F G h))) (by decide) [0, 0] rfl ⟨trivial, ⟨g8, c9⟩⟩ ?_
      exact wp.fin (v := some (vi (-2))) (by decide) am_m183 rfl ⟨_, rfl, Or.inl rfl, rfl⟩ H
set_option maxRecDepth 100000 in
set_option maxHeartbeats 4000000 in
theorem T183_77 {S L : Nat} {F G : Nat → Nat → Int} {h : Nat → Nat → Option Nat} (hh : RfH h) {x2 : Int} {x3 : Int}  {Q : Option V2 → W2 → Prop}
    (H : (R32 x3 ∧
 (if 6 ≤ x3 then
  Q (some (vi ((F 298 1) + 1))) (Wd S L (am_up F 298 1 ((F 298 1) + 1)) G h)
 else
  (R32 (F 297 25) ∧
  (if (F 297 25) ≤ x3 then
   ((0 ≤ ((x2 + 2) + x3) ∧ ((x2 + 2) + x3) < 134) ∧
   C183_77 x2 (x3 + 1) (Wd S L (am_up F 298 ((x2 + 2) + x3).toNat 0) G h) Q)
  else
   ((0 ≤ x3 ∧ x3 < 24) ∧
   (0 ≤ ((x2 + 2) + x3) ∧ ((x2 + 2) + x3) < 134) ∧
   C183_77 x2 (x3 + 1) (Wd S L (am_up F 298 ((x2 + 2) + x3).toNat (F 312 x3.toNat)) G h) Q)))))) : C183_77 x2 x3 (Wd S L F G h) Q := by
  obtain ⟨g1, H⟩ := H
  refine pt183 (s' := (80, [some (vr 297), none, some (vi x2), some (vi x3)], [vi 6, vi x3], (Wd S L F G h))) (by decide) [0, 0] rfl trivial ?_
  by_cases c2 : 6 ≤ x3
  · rw [if_pos c2] at H
    refine pt183 (s' := (133, [some (vr 297), none, some (vi x2), some (vi x3)], [vi ((F 298 1) + 1)], (Wd S L (am_up F 298 1 ((F 298 1) + 1)) G h))) (by decide) [1, 0, 298, 0, 0, 0, 0, 0, 0, 0, 298, 0, 0] rfl ⟨⟨⟨⟨⟨⟨trivial, ⟨⟨g1, (by decide : R32 6)⟩, c2⟩⟩, ⟨Nat.le_of_ble_eq_true rfl, rfl, hh _ _ _ rfl⟩⟩, (ix ⟨Nat.le_of_ble_eq_true rfl, rfl⟩ (by decide : (0 : Int) ≤ 1 ∧ (1 : Int) < 134))⟩, (ix ⟨Nat.le_of_ble_eq_true rfl, rfl⟩ (by decide : (0 : Int) ≤ 1 ∧ (1 : Int) < 134))⟩, ⟨Nat.le_of_ble_eq_true rfl, rfl, hh _ _ _ rfl⟩⟩, (ix ⟨Nat.le_of_ble_eq_true rfl, rfl⟩ (by decide : (0 : Int) ≤ 1 ∧ (1 : Int) < 134))⟩ ?_
    exact wp.fin (v := some (vi ((F 298 1) + 1))) (by decide) am_m183 rfl ⟨_, rfl, Or.inl rfl, rfl⟩ H
  · rw [if_neg c2] at H
    obtain ⟨g3, H⟩ := H
    refine pt183 (s' := (97, [some (vr 297), none, some (vi x2), some (vi x3)], [vi (F 297 25), vi x3, vi ((x2 + 2) + x3), vr 298], (Wd S L F G h))) (by decide) [0, 0, 298, 0, 0, 0, 0, 0, 0, 0, 0] rfl ⟨⟨⟨trivial, ⟨⟨g1, (by decide : R32 6)⟩, c2⟩⟩, ⟨Nat.le_of_ble_eq_true rfl, rfl, hh _ _ _ rfl⟩⟩, ⟨Nat.le_of_ble_eq_true rfl, rfl⟩⟩ ?_
    by_cases c4 : (F 297 25) ≤ x3
    · rw [if_pos c4] at H
      obtain ⟨g5, H⟩ := H
      refine pt183 (s' := (77, [some (vr 297), none, some (vi x2), some (vi (x3 + 1))], [], (Wd S L (am_up F 298 ((x2 + 2) + x3).toNat 0) G h))) (by decide) [1, 0, 0, 0, 0] rfl ⟨⟨trivial, ⟨⟨g1, g3⟩, c4⟩⟩, (ix ⟨Nat.le_of_ble_eq_true rfl, rfl⟩ g5)⟩ ?_
      exact wp.weak (a := [some (vr 297), none, some (vi x2), some (vi (x3 + 1))]) ⟨rfl, rfl, rfl, trivial⟩ H
    · rw [if_neg c4] at H
      obtain ⟨g6, H⟩ := H
      obtain ⟨g7, H⟩ := H
      refine pt183 (s' := (77, [some (vr 297), none, some (vi x2), some (vi (x3 + 1))], [], (Wd S L (am_up F 298 ((x2 + 2) + x3).toNat (F 312 x3.toNat)) G h))) (by decide) [0, 0, 312, 0, 0, 0, 0, 0, 0] rfl ⟨⟨⟨⟨trivial, ⟨⟨g1, g3⟩, c4⟩⟩, ⟨Nat.le_of_ble_eq_true rfl, rfl, hh _ _ _ rfl⟩⟩, (ix ⟨Nat.le_of_ble_eq_true rfl, rfl⟩ g6)⟩, (ix ⟨Nat.le_of_ble_eq_true rfl, rfl⟩ g7)⟩ ?_
      exact wp.weak (a := [some (vr 297), none, some (vi x2), some (vi (x3 + 1))]) ⟨rfl, rfl, rfl, trivial⟩ H
set_option maxRecDepth 100000 in
set_option maxHeartbeats 4000000 in
theorem T184_0 {S L : Nat} {F G : Nat → Nat → Int} {h : Nat → Nat → Option Nat} (hh : RfH h) {a0 : Int}  {Q : Option V2 → W2 → Prop}
    (H : (R64 a0 ∧
 (if a0 = 13903 then
  Q (some (vi 0)) (Wd S L F G h)
 else
  (if a0 = 464134 then
   Q (some (vi 1)) (Wd S L F G h)
  else
   (if a0 = 3544025 then
    Q (some (vi 2)) (Wd S L F G h)
   else
    (if a0 = 335086736 then
     Q (some (vi 3)) (Wd S L F G h)
    else
     Q (some (vi (-4))) (Wd S L F G h))))))) : C184_0 a0 (Wd S L F G h) Q := by
  obtain ⟨g1, H⟩ := H
  refine pt184 (s' := (22, [some (vj a0), none, some (vj 13903), none, some (vj 464134), none, some (vj 3544025), none, some (vj 335086736), none], [vi (y_cmp a0 13903)], (Wd S L F G h))) (by decide) [0, 0, 0, 0, 0, 0, 0, 0, 0, 0, 0] rfl ⟨trivial, ⟨g1, (by decide : R64 13903)⟩⟩ ?_
  by_cases c2 : a0 = 13903
  · rw [if_pos c2] at H
    refine pt184 (s' := (64, [some (vj a0), none, some (vj 13903), none, some (vj 464134), none, some (vj 3544025), none, some (vj 335086736), none], [vi 0], (Wd S L F G h))) (by decide) [0, 0, 0] rfl ⟨trivial, ⟨y_cmp_r32, (y_cmp_eq.mpr c2)⟩⟩ ?_
    exact wp.fin (v := some (vi 0)) (by decide) am_m184 rfl ⟨_, rfl, Or.inl rfl, rfl⟩ H
  · rw [if_neg c2] at H
    refine pt184 (s' := (33, [some (vj a0), none, some (vj 13903), none, some (vj 464134), none, some (vj 3544025), none, some (vj 335086736), none], [vi (y_cmp a0 464134)], (Wd S L F G h))) (by decide) [1, 0, 0, 0] rfl ⟨⟨trivial, ⟨y_cmp_r32, (y_cmp_ne.mpr c2)⟩⟩, ⟨g1, (by decide : R64 464134)⟩⟩ ?_
    by_cases c3 : a0 = 464134
    · rw [if_pos c3] at H
      refine pt184 (s' := (64, [some (vj a0), none, some (vj 13903), none, some (vj 464134), none, some (vj 3544025), none, some (vj 335086736), none], [vi 1], (Wd S L F G h))) (by decide) [0, 0, 0] rfl ⟨trivial, ⟨y_cmp_r32, (y_cmp_eq.mpr c3)⟩⟩ ?_
      exact wp.fin (v := some (vi 1)) (by decide) am_m184 rfl ⟨_, rfl, Or.inl rfl, rfl⟩ H
    · rw [if_neg c3] at H
      refine pt184 (s' := (44, [some (vj a0), none, some (vj 13903), none, some (vj 464134), none, some (vj 3544025), none, some (vj 335086736), none], [vi (y_cmp a0 3544025)], (Wd S L F G h))) (by decide) [1, 0, 0, 0] rfl ⟨⟨trivial, ⟨y_cmp_r32, (y_cmp_ne.mpr c3)⟩⟩, ⟨g1, (by decide : R64 3544025)⟩⟩ ?_
      by_cases c4 : a0 = 3544025
      · rw [if_pos c4] at H
        refine pt184 (s' := (64, [some (vj a0), none, some (vj 13903), none, some (vj 464134), none, some (vj 3544025), none, some (vj 335086736), none], [vi 2], (Wd S L F G h))) (by decide) [0, 0, 0] rfl ⟨trivial, ⟨y_cmp_r32, (y_cmp_eq.mpr c4)⟩⟩ ?_
        exact wp.fin (v := some (vi 2)) (by decide) am_m184 rfl ⟨_, rfl, Or.inl rfl, rfl⟩ H
      · rw [if_neg c4] at H
        refine pt184 (s' := (55, [some (vj a0), none, some (vj 13903), none, some (vj 464134), none, some (vj 3544025), none, some (vj 335086736), none], [vi (y_cmp a0 335086736)], (Wd S L F G h))) (by decide) [1, 0, 0, 0] rfl ⟨⟨trivial, ⟨y_cmp_r32, (y_cmp_ne.mpr c4)⟩⟩, ⟨g1, (by decide : R64 335086736)⟩⟩ ?_
        by_cases c5 : a0 = 335086736
        · rw [if_pos c5] at H
          refine pt184 (s' := (64, [some (vj a0), none, some (vj 13903), none, some (vj 464134), none, some (vj 3544025), none, some (vj 335086736), none], [vi 3], (Wd S L F G h))) (by decide) [0, 0, 0] rfl ⟨trivial, ⟨y_cmp_r32, (y_cmp_eq.mpr c5)⟩⟩ ?_
          exact wp.fin (v := some (vi 3)) (by decide) am_m184 rfl ⟨_, rfl, Or.inl rfl, rfl⟩ H
        · rw [if_neg c5] at H
          refine pt184 (s' := (64, [some (vj a0), none, some (vj 13903), none, some (vj 464134), none, some (vj 3544025), none, some (vj 335086736), none], [vi (-4)], (Wd S L F G h))) (by decide) [1, 0] rfl ⟨trivial, ⟨y_cmp_r32, (y_cmp_ne.mpr c5)⟩⟩ ?_
          exact wp.fin (v := some (vi (-4))) (by decide) am_m184 rfl ⟨_, rfl, Or.inl rfl, rfl⟩ H
