/-! the methods walked, by program (wip/whole/sym.py) -/
set_option maxRecDepth 100000 in
set_option maxHeartbeats 4000000 in
theorem T152_0 {S L : Nat} {F G : Nat → Nat → Int} {h : Nat → Nat → Option Nat} (hh : RfH h) {a1 : Int} {a2 : Int}  {Q : Option V2 → W2 → Prop}
    (H : (R32 a1 ∧
 R32 ((F 298 1) - 1) ∧
 (if a1 < 0 then
  Q (some (vi (-1))) (Wd S L F G h)
 else
  (if ((F 298 1) - 1) < a1 then
   Q (some (vi (-1))) (Wd S L F G h)
  else
   (R32 a2 ∧
   (if a2 = 0 then
    ((0 ≤ (70 + (8 * a1)) ∧ (70 + (8 * a1)) < 134) ∧
    Q (some (vi (F 298 (70 + (8 * a1)).toNat))) (Wd S L F G h))
   else
   (if a2 = 1 then
    ((0 ≤ ((70 + (8 * a1)) + 1) ∧ ((70 + (8 * a1)) + 1) < 134) ∧
    Q (some (vi (F 298 ((70 + (8 * a1)) + 1).toNat))) (Wd S L F G h))
   else
   (if a2 = 2 then
    C147_0 a1 (Wd S L F G h) (fun v w1 => ∃ (v11 : Int), v = some (vi v11) ∧ w1 = (Wd S L F G h) ∧
     C148_0 v11 (Wd S L F G h) (fun v w1 => ∃ (v12 : Int), v = some (vi v12) ∧ w1 = (Wd S L F G h) ∧
      Q (some (vi v12)) (Wd S L F G h)))
   else
   (if a2 = 3 then
    C149_0 a1 (Wd S L F G h) (fun v w1 => ∃ (v14 : Int), v = some (vi v14) ∧ w1 = (Wd S L F G h) ∧
     C151_0 v14 (Wd S L F G h) (fun v w1 => ∃ (v15 : Int), v = some (vi v15) ∧ w1 = (Wd S L F G h) ∧
      Q (some (vi v15)) (Wd S L F G h)))
   else
   (if a2 = 4 then
    C149_0 a1 (Wd S L F G h) (fun v w1 => ∃ (v17 : Int), v = some (vi v17) ∧ w1 = (Wd S L F G h) ∧
     C150_0 v17 (Wd S L F G h) (fun v w1 => ∃ (v18 : Int), v = some (vi v18) ∧ w1 = (Wd S L F G h) ∧
      Q (some (vi v18)) (Wd S L F G h)))
   else
   Q (some (vi (-1))) (Wd S L F G h))))))))))) : C152_0 a1 a2 (Wd S L F G h) Q := by
  refine pt152 (s' := (2, [some (vr 297), some (vi a1), some (vi a2)], [vi a1, vr 297], (Wd S L F G h))) (by decide) [0, 0] rfl trivial ?_
  refine wp.cl am_m152 rfl am_m142 7 [vr 297, vi a1] [] rfl (Nat.le_of_ble_eq_true rfl) (Nat.le_of_ble_eq_true rfl) rfl (Nat.le_of_ble_eq_true rfl) rfl (Nat.le_of_ble_eq_true rfl) (Nat.le_of_ble_eq_true rfl) ⟨_, _, rfl, Nat.le_of_ble_eq_true rfl, rfl⟩ ?_
  obtain ⟨g1, H⟩ := H
  obtain ⟨g2, H⟩ := H
  refine pt142 (s' := (12, [some (vr 297), some (vi a1)], [vj ((F 298 1) - 1), vj 0, vj a1], (Wd S L F G h))) (by decide) [0, 0, 0, 0, 298, 0, 0, 0, 0, 0] rfl ⟨⟨⟨⟨trivial, g1⟩, ⟨Nat.le_of_ble_eq_true rfl, rfl, hh _ _ _ rfl⟩⟩, (ix ⟨Nat.le_of_ble_eq_true rfl, rfl⟩ (by decide : (0 : Int) ≤ 1 ∧ (1 : Int) < 134))⟩, g2⟩ ?_
  refine wp.cl am_m142 rfl am_m112 6 [vj a1, vj 0, vj ((F 298 1) - 1)] [] rfl (Nat.le_of_ble_eq_true rfl) (Nat.le_of_ble_eq_true rfl) rfl (Nat.le_of_ble_eq_true rfl) rfl (Nat.le_of_ble_eq_true rfl) (Nat.le_of_ble_eq_true rfl) trivial ?_
  refine pt112 (s' := (3, [some (vj a1), none, some (vj 0), none, some (vj ((F 298 1) - 1)), none], [vi (y_cmp a1 0)], (Wd S L F G h))) (by decide) [0, 0, 0] rfl ⟨trivial, ⟨(r64 g1), (by decide : R64 0)⟩⟩ ?_
  by_cases c3 : a1 < 0
  · rw [if_pos c3] at H
    refine pt112 (s' := (18, [some (vj a1), none, some (vj 0), none, some (vj ((F 298 1) - 1)), none], [vi 0], (Wd S L F G h))) (by decide) [1, 0] rfl ⟨trivial, ⟨y_cmp_r32, (y_cmp_lt.mpr c3)⟩⟩ ?_
    refine wp.fin (v := some (vi 0)) (by decide) am_m112 rfl ⟨_, rfl, Or.inr ⟨rfl, Or.inl rfl⟩, rfl⟩ ?_
    show wp 7 142 (15, [some (vr 297), some (vi a1)], [vi 0], (Wd S L F G h)) _
    refine wp.fin (v := some (vi 0)) (by decide) am_m142 rfl ⟨_, rfl, Or.inr ⟨rfl, Or.inl rfl⟩, rfl⟩ ?_
    show wp 9 152 (5, [some (vr 297), some (vi a1), some (vi a2)], [vi 0], (Wd S L F G h)) _
    refine pt152 (s' := (9, [some (vr 297), some (vi a1), some (vi a2)], [vi (-1)], (Wd S L F G h))) (by decide) [0, 0] rfl ⟨trivial, ⟨(by decide : R32 0), (by decide : (0 : Int) = (0 : Int))⟩⟩ ?_
    exact wp.fin (v := some (vi (-1))) (by decide) am_m152 rfl ⟨_, rfl, Or.inl rfl, rfl⟩ H
  · rw [if_neg c3] at H
    refine pt112 (s' := (10, [some (vj a1), none, some (vj 0), none, some (vj ((F 298 1) - 1)), none], [vi (y_cmp a1 ((F 298 1) - 1))], (Wd S L F G h))) (by decide) [0, 0, 0, 0] rfl ⟨⟨trivial, ⟨y_cmp_r32, (fun e => c3 (y_cmp_lt.mp e))⟩⟩, ⟨(r64 g1), (r64 g2)⟩⟩ ?_
    by_cases c4 : ((F 298 1) - 1) < a1
    · rw [if_pos c4] at H
      refine pt112 (s' := (18, [some (vj a1), none, some (vj 0), none, some (vj ((F 298 1) - 1)), none], [vi 0], (Wd S L F G h))) (by decide) [1, 0] rfl ⟨trivial, ⟨y_cmp_r32, (y_cmp_gt.mpr c4)⟩⟩ ?_
      refine wp.fin (v := some (vi 0)) (by decide) am_m112 rfl ⟨_, rfl, Or.inr ⟨rfl, Or.inl rfl⟩, rfl⟩ ?_
      show wp 7 142 (15, [some (vr 297), some (vi a1)], [vi 0], (Wd S L F G h)) _
      refine wp.fin (v := some (vi 0)) (by decide) am_m142 rfl ⟨_, rfl, Or.inr ⟨rfl, Or.inl rfl⟩, rfl⟩ ?_
      show wp 9 152 (5, [some (vr 297), some (vi a1), some (vi a2)], [vi 0], (Wd S L F G h)) _
      refine pt152 (s' := (9, [some (vr 297), some (vi a1), some (vi a2)], [vi (-1)], (Wd S L F G h))) (by decide) [0, 0] rfl ⟨trivial, ⟨(by decide : R32 0), (by decide : (0 : Int) = (0 : Int))⟩⟩ ?_
      exact wp.fin (v := some (vi (-1))) (by decide) am_m152 rfl ⟨_, rfl, Or.inl rfl, rfl⟩ H
    · rw [if_neg c4] at H
      refine pt112 (s' := (18, [some (vj a1), none, some (vj 0), none, some (vj ((F 298 1) - 1)), none], [vi 1], (Wd S L F G h))) (by decide) [0, 0, 0] rfl ⟨trivial, ⟨y_cmp_r32, (fun e => c4 (y_cmp_gt.mp e))⟩⟩ ?_
      refine wp.fin (v := some (vi 1)) (by decide) am_m112 rfl ⟨_, rfl, Or.inr ⟨rfl, Or.inr rfl⟩, rfl⟩ ?_
      show wp 7 142 (15, [some (vr 297), some (vi a1)], [vi 1], (Wd S L F G h)) _
      refine wp.fin (v := some (vi 1)) (by decide) am_m142 rfl ⟨_, rfl, Or.inr ⟨rfl, Or.inr rfl⟩, rfl⟩ ?_
      show wp 9 152 (5, [some (vr 297), some (vi a1), some (vi a2)], [vi 1], (Wd S L F G h)) _
      obtain ⟨g5, H⟩ := H
      refine pt152 (s' := (11, [some (vr 297), some (vi a1), some (vi a2)], [vi a2], (Wd S L F G h))) (by decide) [1, 0] rfl ⟨trivial, ⟨(by decide : R32 1), (by decide : ¬ (1 : Int) = (0 : Int))⟩⟩ ?_
      by_cases c6 : a2 = 0
      · rw [if_pos c6] at H
        refine pt152 (s' := (46, [some (vr 297), some (vi a1), some (vi a2)], [vi a1, vr 297], (Wd S L F G h))) (by decide) [1, 0, 0] rfl ⟨trivial, ⟨g5, (by omega : ¬ a2 < 0), (by omega : ¬ 4 < a2), c6⟩⟩ ?_
        refine wp.cl am_m152 rfl am_m143 6 [vr 297, vi a1] [] rfl (Nat.le_of_ble_eq_true rfl) (Nat.le_of_ble_eq_true rfl) rfl (Nat.le_of_ble_eq_true rfl) rfl (Nat.le_of_ble_eq_true rfl) (Nat.le_of_ble_eq_true rfl) ⟨_, _, rfl, Nat.le_of_ble_eq_true rfl, rfl⟩ ?_
        obtain ⟨g7, H⟩ := H
        refine pt143 (s' := (12, [some (vr 297), some (vi a1)], [vi (F 298 (70 + (8 * a1)).toNat)], (Wd S L F G h))) (by decide) [0, 298, 0, 0, 0, 0, 0, 0] rfl ⟨⟨trivial, ⟨Nat.le_of_ble_eq_true rfl, rfl, hh _ _ _ rfl⟩⟩, (ix ⟨Nat.le_of_ble_eq_true rfl, rfl⟩ g7)⟩ ?_
        refine wp.fin (v := some (vi (F 298 (70 + (8 * a1)).toNat))) (by decide) am_m143 rfl ⟨_, rfl, Or.inl rfl, rfl⟩ ?_
        show wp 9 152 (49, [some (vr 297), some (vi a1), some (vi a2)], [vi (F 298 (70 + (8 * a1)).toNat)], (Wd S L F G h)) _
        exact wp.fin (v := some (vi (F 298 (70 + (8 * a1)).toNat))) (by decide) am_m152 rfl ⟨_, rfl, Or.inl rfl, rfl⟩ H
      · rw [if_neg c6] at H
        by_cases c8 : a2 = 1
        · rw [if_pos c8] at H
          refine pt152 (s' := (52, [some (vr 297), some (vi a1), some (vi a2)], [vi a1, vr 297], (Wd S L F G h))) (by decide) [2, 0, 0] rfl ⟨trivial, ⟨g5, (by omega : ¬ a2 < 0), (by omega : ¬ 4 < a2), c8⟩⟩ ?_
          refine wp.cl am_m152 rfl am_m144 6 [vr 297, vi a1] [] rfl (Nat.le_of_ble_eq_true rfl) (Nat.le_of_ble_eq_true rfl) rfl (Nat.le_of_ble_eq_true rfl) rfl (Nat.le_of_ble_eq_true rfl) (Nat.le_of_ble_eq_true rfl) ⟨_, _, rfl, Nat.le_of_ble_eq_true rfl, rfl⟩ ?_
          obtain ⟨g9, H⟩ := H
          refine pt144 (s' := (14, [some (vr 297), some (vi a1)], [vi (F 298 ((70 + (8 * a1)) + 1).toNat)], (Wd S L F G h))) (by decide) [0, 298, 0, 0, 0, 0, 0, 0, 0, 0] rfl ⟨⟨trivial, ⟨Nat.le_of_ble_eq_true rfl, rfl, hh _ _ _ rfl⟩⟩, (ix ⟨Nat.le_of_ble_eq_true rfl, rfl⟩ g9)⟩ ?_
          refine wp.fin (v := some (vi (F 298 ((70 + (8 * a1)) + 1).toNat))) (by decide) am_m144 rfl ⟨_, rfl, Or.inl rfl, rfl⟩ ?_
          show wp 9 152 (55, [some (vr 297), some (vi a1), some (vi a2)], [vi (F 298 ((70 + (8 * a1)) + 1).toNat)], (Wd S L F G h)) _
          exact wp.fin (v := some (vi (F 298 ((70 + (8 * a1)) + 1).toNat))) (by decide) am_m152 rfl ⟨_, rfl, Or.inl rfl, rfl⟩ H
        · rw [if_neg c8] at H
          by_cases c10 : a2 = 2
          · rw [if_pos c10] at H
            refine pt152 (s' := (58, [some (vr 297), some (vi a1), some (vi a2)], [vi a1, vr 297], (Wd S L F G h))) (by decide) [3, 0, 0] rfl ⟨trivial, ⟨g5, (by omega : ¬ a2 < 0), (by omega : ¬ 4 < a2), c10⟩⟩ ?_
            refine wp.cl am_m152 rfl am_m147 7 [vr 297, vi a1] [] rfl (Nat.le_of_ble_eq_true rfl) (Nat.le_of_ble_eq_true rfl) rfl (Nat.le_of_ble_eq_true rfl) rfl (Nat.le_of_ble_eq_true rfl) (Nat.le_of_ble_eq_true rfl) ⟨_, _, rfl, Nat.le_of_ble_eq_true rfl, rfl⟩ ?_
            refine wp.mono H ?_
            rintro v w1 ⟨v11, rfl, rfl, H⟩
            show wp 9 152 (61, [some (vr 297), some (vi a1), some (vi a2)], [vi v11], (Wd S L F G h)) _
            refine wp.cl am_m152 rfl am_m148 6 [vi v11] [] rfl (Nat.le_of_ble_eq_true rfl) (Nat.le_of_ble_eq_true rfl) rfl (Nat.le_of_ble_eq_true rfl) rfl (Nat.le_of_ble_eq_true rfl) (Nat.le_of_ble_eq_true rfl) trivial ?_
            refine wp.mono H ?_
            rintro v w1 ⟨v12, rfl, rfl, H⟩
            show wp 9 152 (64, [some (vr 297), some (vi a1), some (vi a2)], [vi v12], (Wd S L F G h)) _
            exact wp.fin (v := some (vi v12)) (by decide) am_m152 rfl ⟨_, rfl, Or.inl rfl, rfl⟩ H
          · rw [if_neg c10] at H
            by_cases c13 : a2 = 3
            · rw [if_pos c13] at H
              refine pt152 (s' := (67, [some (vr 297), some (vi a1), some (vi a2)], [vi a1, vr 297], (Wd S L F G h))) (by decide) [4, 0, 0] rfl ⟨trivial, ⟨g5, (by omega : ¬ a2 < 0), (by omega : ¬ 4 < a2), c13⟩⟩ ?_
              refine wp.cl am_m152 rfl am_m149 8 [vr 297, vi a1] [] rfl (Nat.le_of_ble_eq_true rfl) (Nat.le_of_ble_eq_true rfl) rfl (Nat.le_of_ble_eq_true rfl) rfl (Nat.le_of_ble_eq_true rfl) (Nat.le_of_ble_eq_true rfl) ⟨_, _, rfl, Nat.le_of_ble_eq_true rfl, rfl⟩ ?_
              refine wp.mono H ?_
              rintro v w1 ⟨v14, rfl, rfl, H⟩
              show wp 9 152 (70, [some (vr 297), some (vi a1), some (vi a2)], [vi v14], (Wd S L F G h)) _
              refine wp.cl am_m152 rfl am_m151 6 [vi v14] [] rfl (Nat.le_of_ble_eq_true rfl) (Nat.le_of_ble_eq_true rfl) rfl (Nat.le_of_ble_eq_true rfl) rfl (Nat.le_of_ble_eq_true rfl) (Nat.le_of_ble_eq_true rfl) trivial ?_
              refine wp.mono H ?_
              rintro v w1 ⟨v15, rfl, rfl, H⟩
              show wp 9 152 (73, [some (vr 297), some (vi a1), some (vi a2)], [vi v15], (Wd S L F G h)) _
              exact wp.fin (v := some (vi v15)) (by decide) am_m152 rfl ⟨_, rfl, Or.inl rfl, rfl⟩ H
            · rw [if_neg c13] at H
              by_cases c16 : a2 = 4
              · rw [if_pos c16] at H
                refine pt152 (s' := (76, [some (vr 297), some (vi a1), some (vi a2)], [vi a1, vr 297], (Wd S L F G h))) (by decide) [5, 0, 0] rfl ⟨trivial, ⟨g5, (by omega : ¬ a2 < 0), (by omega : ¬ 4 < a2), c16⟩⟩ ?_
                refine wp.cl am_m152 rfl am_m149 8 [vr 297, vi a1] [] rfl (Nat.le_of_ble_eq_true rfl) (Nat.le_of_ble_eq_true rfl) rfl (Nat.le_of_ble_eq_true rfl) rfl (Nat.le_of_ble_eq_true rfl) (Nat.le_of_ble_eq_true rfl) ⟨_, _, rfl, Nat.le_of_ble_eq_true rfl, rfl⟩ ?_
                refine wp.mono H ?_
                rintro v w1 ⟨v17, rfl, rfl, H⟩
                show wp 9 152 (79, [some (vr 297), some (vi a1), some (vi a2)], [vi v17], (Wd S L F G h)) _
                refine wp.cl am_m152 rfl am_m150 6 [vi v17] [] rfl (Nat.le_of_ble_eq_true rfl) (Nat.le_of_ble_eq_true rfl) rfl (Nat.le_of_ble_eq_true rfl) rfl (Nat.le_of_ble_eq_true rfl) (Nat.le_of_ble_eq_true rfl) trivial ?_
                refine wp.mono H ?_
                rintro v w1 ⟨v18, rfl, rfl, H⟩
                show wp 9 152 (82, [some (vr 297), some (vi a1), some (vi a2)], [vi v18], (Wd S L F G h)) _
                exact wp.fin (v := some (vi v18)) (by decide) am_m152 rfl ⟨_, rfl, Or.inl rfl, rfl⟩ H
              · rw [if_neg c16] at H
                refine pt152 (s' := (84, [some (vr 297), some (vi a1), some (vi a2)], [vi (-1)], (Wd S L F G h))) (by decide) [0, 0] rfl ⟨trivial, ⟨g5, (by omega : a2 < 0 ∨ 4 < a2)⟩⟩ ?_
                exact wp.fin (v := some (vi (-1))) (by decide) am_m152 rfl ⟨_, rfl, Or.inl rfl, rfl⟩ H
set_option maxRecDepth 100000 in
set_option maxHeartbeats 4000000 in
theorem T153_0 {S L : Nat} {F G : Nat → Nat → Int} {h : Nat → Nat → Option Nat} (hh : RfH h) {a1 : Int} {a2 : Int}  {Q : Option V2 → W2 → Prop}
    (H : (R32 a1 ∧
 R32 ((F 298 1) - 1) ∧
 (if a1 < 0 then
  Q (some (vi (-1))) (Wd S L F G h)
 else
  (if ((F 298 1) - 1) < a1 then
   Q (some (vi (-1))) (Wd S L F G h)
  else
   (R32 a2 ∧
   (if 0 ≤ a2 then
    ((0 ≤ ((70 + (8 * a1)) + 1) ∧ ((70 + (8 * a1)) + 1) < 134) ∧
    R32 (F 298 ((70 + (8 * a1)) + 1).toNat) ∧
    (if (F 298 ((70 + (8 * a1)) + 1).toNat) ≤ a2 then
     Q (some (vi (-4))) (Wd S L F G h)
    else
     ((0 ≤ (((70 + (8 * a1)) + 2) + a2) ∧ (((70 + (8 * a1)) + 2) + a2) < 134) ∧
     Q (some (vi (F 298 (((70 + (8 * a1)) + 2) + a2).toNat))) (Wd S L F G h))))
   else
    Q (some (vi (-1))) (Wd S L F G h))))))) : C153_0 a1 a2 (Wd S L F G h) Q := by
  refine pt153 (s' := (2, [some (vr 297), some (vi a1), some (vi a2)], [vi a1, vr 297], (Wd S L F G h))) (by decide) [0, 0] rfl trivial ?_
  refine wp.cl am_m153 rfl am_m142 7 [vr 297, vi a1] [] rfl (Nat.le_of_ble_eq_true rfl) (Nat.le_of_ble_eq_true rfl) rfl (Nat.le_of_ble_eq_true rfl) rfl (Nat.le_of_ble_eq_true rfl) (Nat.le_of_ble_eq_true rfl) ⟨_, _, rfl, Nat.le_of_ble_eq_true rfl, rfl⟩ ?_
  obtain ⟨g1, H⟩ := H
  obtain ⟨g2, H⟩ := H
  refine pt142 (s' := (12, [some (vr 297), some (vi a1)], [vj ((F 298 1) - 1), vj 0, vj a1], (Wd S L F G h))) (by decide) [0, 0, 0, 0, 298, 0, 0, 0, 0, 0] rfl ⟨⟨⟨⟨trivial, g1⟩, ⟨Nat.le_of_ble_eq_true rfl, rfl, hh _ _ _ rfl⟩⟩, (ix ⟨Nat.le_of_ble_eq_true rfl, rfl⟩ (by decide : (0 : Int) ≤ 1 ∧ (1 : Int) < 134))⟩, g2⟩ ?_
  refine wp.cl am_m142 rfl am_m112 6 [vj a1, vj 0, vj ((F 298 1) - 1)] [] rfl (Nat.le_of_ble_eq_true rfl) (Nat.le_of_ble_eq_true rfl) rfl (Nat.le_of_ble_eq_true rfl) rfl (Nat.le_of_ble_eq_true rfl) (Nat.le_of_ble_eq_true rfl) trivial ?_
  refine pt112 (s' := (3, [some (vj a1), none, some (vj 0), none, some (vj ((F 298 1) - 1)), none], [vi (y_cmp a1 0)], (Wd S L F G h))) (by decide) [0, 0, 0] rfl ⟨trivial, ⟨(r64 g1), (by decide : R64 0)⟩⟩ ?_
  by_cases c3 : a1 < 0
  · rw [if_pos c3] at H
    refine pt112 (s' := (18, [some (vj a1), none, some (vj 0), none, some (vj ((F 298 1) - 1)), none], [vi 0], (Wd S L F G h))) (by decide) [1, 0] rfl ⟨trivial, ⟨y_cmp_r32, (y_cmp_lt.mpr c3)⟩⟩ ?_
    refine wp.fin (v := some (vi 0)) (by decide) am_m112 rfl ⟨_, rfl, Or.inr ⟨rfl, Or.inl rfl⟩, rfl⟩ ?_
    show wp 7 142 (15, [some (vr 297), some (vi a1)], [vi 0], (Wd S L F G h)) _
    refine wp.fin (v := some (vi 0)) (by decide) am_m142 rfl ⟨_, rfl, Or.inr ⟨rfl, Or.inl rfl⟩, rfl⟩ ?_
    show wp 8 153 (5, [some (vr 297), some (vi a1), some (vi a2)], [vi 0], (Wd S L F G h)) _
    refine pt153 (s' := (13, [some (vr 297), some (vi a1), some (vi a2)], [vi (-1)], (Wd S L F G h))) (by decide) [1, 0] rfl ⟨trivial, ⟨(by decide : R32 0), (by decide : (0 : Int) = (0 : Int))⟩⟩ ?_
    exact wp.fin (v := some (vi (-1))) (by decide) am_m153 rfl ⟨_, rfl, Or.inl rfl, rfl⟩ H
  · rw [if_neg c3] at H
    refine pt112 (s' := (10, [some (vj a1), none, some (vj 0), none, some (vj ((F 298 1) - 1)), none], [vi (y_cmp a1 ((F 298 1) - 1))], (Wd S L F G h))) (by decide) [0, 0, 0, 0] rfl ⟨⟨trivial, ⟨y_cmp_r32, (fun e => c3 (y_cmp_lt.mp e))⟩⟩, ⟨(r64 g1), (r64 g2)⟩⟩ ?_
    by_cases c4 : ((F 298 1) - 1) < a1
    · rw [if_pos c4] at H
      refine pt112 (s' := (18, [some (vj a1), none, some (vj 0), none, some (vj ((F 298 1) - 1)), none], [vi 0], (Wd S L F G h))) (by decide) [1, 0] rfl ⟨trivial, ⟨y_cmp_r32, (y_cmp_gt.mpr c4)⟩⟩ ?_
      refine wp.fin (v := some (vi 0)) (by decide) am_m112 rfl ⟨_, rfl, Or.inr ⟨rfl, Or.inl rfl⟩, rfl⟩ ?_
      show wp 7 142 (15, [some (vr 297), some (vi a1)], [vi 0], (Wd S L F G h)) _
      refine wp.fin (v := some (vi 0)) (by decide) am_m142 rfl ⟨_, rfl, Or.inr ⟨rfl, Or.inl rfl⟩, rfl⟩ ?_
      show wp 8 153 (5, [some (vr 297), some (vi a1), some (vi a2)], [vi 0], (Wd S L F G h)) _
      refine pt153 (s' := (13, [some (vr 297), some (vi a1), some (vi a2)], [vi (-1)], (Wd S L F G h))) (by decide) [1, 0] rfl ⟨trivial, ⟨(by decide : R32 0), (by decide : (0 : Int) = (0 : Int))⟩⟩ ?_
      exact wp.fin (v := some (vi (-1))) (by decide) am_m153 rfl ⟨_, rfl, Or.inl rfl, rfl⟩ H
    · rw [if_neg c4] at H
      refine pt112 (s' := (18, [some (vj a1), none, some (vj 0), none, some (vj ((F 298 1) - 1)), none], [vi 1], (Wd S L F G h))) (by decide) [0, 0, 0] rfl ⟨trivial, ⟨y_cmp_r32, (fun e => c4 (y_cmp_gt.mp e))⟩⟩ ?_
      refine wp.fin (v := some (vi 1)) (by decide) am_m112 rfl ⟨_, rfl, Or.inr ⟨rfl, Or.inr rfl⟩, rfl⟩ ?_
      show wp 7 142 (15, [some (vr 297), some (vi a1)], [vi 1], (Wd S L F G h)) _
      refine wp.fin (v := some (vi 1)) (by decide) am_m142 rfl ⟨_, rfl, Or.inr ⟨rfl, Or.inr rfl⟩, rfl⟩ ?_
      show wp 8 153 (5, [some (vr 297), some (vi a1), some (vi a2)], [vi 1], (Wd S L F G h)) _
      obtain ⟨g5, H⟩ := H
      refine pt153 (s' := (9, [some (vr 297), some (vi a1), some (vi a2)], [vi a2], (Wd S L F G h))) (by decide) [0, 0] rfl ⟨trivial, ⟨(by decide : R32 1), (by decide : ¬ (1 : Int) = (0 : Int))⟩⟩ ?_
      by_cases c6 : 0 ≤ a2
      · rw [if_pos c6] at H
        refine pt153 (s' := (17, [some (vr 297), some (vi a1), some (vi a2)], [vi a1, vr 297, vi a2], (Wd S L F G h))) (by decide) [1, 0, 0, 0] rfl ⟨trivial, ⟨g5, c6⟩⟩ ?_
        refine wp.cl am_m153 rfl am_m144 6 [vr 297, vi a1] [vi a2] rfl (Nat.le_of_ble_eq_true rfl) (Nat.le_of_ble_eq_true rfl) rfl (Nat.le_of_ble_eq_true rfl) rfl (Nat.le_of_ble_eq_true rfl) (Nat.le_of_ble_eq_true rfl) ⟨_, _, rfl, Nat.le_of_ble_eq_true rfl, rfl⟩ ?_
        obtain ⟨g7, H⟩ := H
        refine pt144 (s' := (14, [some (vr 297), some (vi a1)], [vi (F 298 ((70 + (8 * a1)) + 1).toNat)], (Wd S L F G h))) (by decide) [0, 298, 0, 0, 0, 0, 0, 0, 0, 0] rfl ⟨⟨trivial, ⟨Nat.le_of_ble_eq_true rfl, rfl, hh _ _ _ rfl⟩⟩, (ix ⟨Nat.le_of_ble_eq_true rfl, rfl⟩ g7)⟩ ?_
        refine wp.fin (v := some (vi (F 298 ((70 + (8 * a1)) + 1).toNat))) (by decide) am_m144 rfl ⟨_, rfl, Or.inl rfl, rfl⟩ ?_
        show wp 8 153 (20, [some (vr 297), some (vi a1), some (vi a2)], [vi (F 298 ((70 + (8 * a1)) + 1).toNat), vi a2], (Wd S L F G h)) _
        obtain ⟨g8, H⟩ := H
        by_cases c9 : (F 298 ((70 + (8 * a1)) + 1).toNat) ≤ a2
        · rw [if_pos c9] at H
          refine pt153 (s' := (34, [some (vr 297), some (vi a1), some (vi a2)], [vi (-4)], (Wd S L F G h))) (by decide) [1, 0] rfl ⟨trivial, ⟨⟨g5, g8⟩, c9⟩⟩ ?_
          exact wp.fin (v := some (vi (-4))) (by decide) am_m153 rfl ⟨_, rfl, Or.inl rfl, rfl⟩ H
        · rw [if_neg c9] at H
          refine pt153 (s' := (26, [some (vr 297), some (vi a1), some (vi a2)], [vi a2, vi a1, vr 297], (Wd S L F G h))) (by decide) [0, 0, 0, 0] rfl ⟨trivial, ⟨⟨g5, g8⟩, c9⟩⟩ ?_
          refine wp.cl am_m153 rfl am_m145 6 [vr 297, vi a1, vi a2] [] rfl (Nat.le_of_ble_eq_true rfl) (Nat.le_of_ble_eq_true rfl) rfl (Nat.le_of_ble_eq_true rfl) rfl (Nat.le_of_ble_eq_true rfl) (Nat.le_of_ble_eq_true rfl) ⟨_, _, rfl, Nat.le_of_ble_eq_true rfl, rfl⟩ ?_
          obtain ⟨g10, H⟩ := H
          refine pt145 (s' := (16, [some (vr 297), some (vi a1), some (vi a2)], [vi (F 298 (((70 + (8 * a1)) + 2) + a2).toNat)], (Wd S L F G h))) (by decide) [0, 298, 0, 0, 0, 0, 0, 0, 0, 0, 0, 0] rfl ⟨⟨trivial, ⟨Nat.le_of_ble_eq_true rfl, rfl, hh _ _ _ rfl⟩⟩, (ix ⟨Nat.le_of_ble_eq_true rfl, rfl⟩ g10)⟩ ?_
          refine wp.fin (v := some (vi (F 298 (((70 + (8 * a1)) + 2) + a2).toNat))) (by decide) am_m145 rfl ⟨_, rfl, Or.inl rfl, rfl⟩ ?_
          show wp 8 153 (29, [some (vr 297), some (vi a1), some (vi a2)], [vi (F 298 (((70 + (8 * a1)) + 2) + a2).toNat)], (Wd S L F G h)) _
          refine pt153 (s' := (34, [some (vr 297), some (vi a1), some (vi a2)], [vi (F 298 (((70 + (8 * a1)) + 2) + a2).toNat)], (Wd S L F G h))) (by decide) [0] rfl trivial ?_
          exact wp.fin (v := some (vi (F 298 (((70 + (8 * a1)) + 2) + a2).toNat))) (by decide) am_m153 rfl ⟨_, rfl, Or.inl rfl, rfl⟩ H
      · rw [if_neg c6] at H
        refine pt153 (s' := (13, [some (vr 297), some (vi a1), some (vi a2)], [vi (-1)], (Wd S L F G h))) (by decide) [0, 0] rfl ⟨trivial, ⟨g5, c6⟩⟩ ?_
        exact wp.fin (v := some (vi (-1))) (by decide) am_m153 rfl ⟨_, rfl, Or.inl rfl, rfl⟩ H
set_option maxRecDepth 100000 in
set_option maxHeartbeats 4000000 in
theorem T154_0 {S L : Nat} {F G : Nat → Nat → Int} {h : Nat → Nat → Option Nat} (hh : RfH h) {a1 : Int}  {Q : Option V2 → W2 → Prop}
    (H : (R32 a1 ∧
 (if a1 < 0 then
  Q (some (vi (-1))) (Wd S L F G h)
 else
  (if 1 < a1 then
   Q (some (vi (-1))) (Wd S L F G h)
  else
   (R32 (F 298 1) ∧
   (if (F 298 1) = 0 then
    Q (some (vi (-4))) (Wd S L F G h)
   else
    C154_31 a1 0 0 0 (Wd S L F G h) Q)))))) : C154_0 a1 (Wd S L F G h) Q := by
  obtain ⟨g1, H⟩ := H
  refine pt154 (s' := (4, [some (vr 297), some (vi a1), none, none, none, none, none, none], [vj 1, vj 0, vj a1], (Wd S L F G h))) (by decide) [0, 0, 0, 0] rfl ⟨trivial, g1⟩ ?_
  refine wp.cl am_m154 rfl am_m112 6 [vj a1, vj 0, vj 1] [] rfl (Nat.le_of_ble_eq_true rfl) (Nat.le_of_ble_eq_true rfl) rfl (Nat.le_of_ble_eq_true rfl) rfl (Nat.le_of_ble_eq_true rfl) (Nat.le_of_ble_eq_true rfl) trivial ?_
  refine pt112 (s' := (3, [some (vj a1), none, some (vj 0), none, some (vj 1), none], [vi (y_cmp a1 0)], (Wd S L F G h))) (by decide) [0, 0, 0] rfl ⟨trivial, ⟨(r64 g1), (by decide : R64 0)⟩⟩ ?_
  by_cases c2 : a1 < 0
  · rw [if_pos c2] at H
    refine pt112 (s' := (18, [some (vj a1), none, some (vj 0), none, some (vj 1), none], [vi 0], (Wd S L F G h))) (by decide) [1, 0] rfl ⟨trivial, ⟨y_cmp_r32, (y_cmp_lt.mpr c2)⟩⟩ ?_
    refine wp.fin (v := some (vi 0)) (by decide) am_m112 rfl ⟨_, rfl, Or.inr ⟨rfl, Or.inl rfl⟩, rfl⟩ ?_
    show wp 9 154 (7, [some (vr 297), some (vi a1), none, none, none, none, none, none], [vi 0], (Wd S L F G h)) _
    refine pt154 (s' := (11, [some (vr 297), some (vi a1), none, none, none, none, none, none], [vi (-1)], (Wd S L F G h))) (by decide) [0, 0] rfl ⟨trivial, ⟨(by decide : R32 0), (by decide : (0 : Int) = (0 : Int))⟩⟩ ?_
    exact wp.fin (v := some (vi (-1))) (by decide) am_m154 rfl ⟨_, rfl, Or.inl rfl, rfl⟩ H
  · rw [if_neg c2] at H
    refine pt112 (s' := (10, [some (vj a1), none, some (vj 0), none, some (vj 1), none], [vi (y_cmp a1 1)], (Wd S L F G h))) (by decide) [0, 0, 0, 0] rfl ⟨⟨trivial, ⟨y_cmp_r32, (fun e => c2 (y_cmp_lt.mp e))⟩⟩, ⟨(r64 g1), (by decide : R64 1)⟩⟩ ?_
    by_cases c3 : 1 < a1
    · rw [if_pos c3] at H
      refine pt112 (s' := (18, [some (vj a1), none, some (vj 0), none, some (vj 1), none], [vi 0], (Wd S L F G h))) (by decide) [1, 0] rfl ⟨trivial, ⟨y_cmp_r32, (y_cmp_gt.mpr c3)⟩⟩ ?_
      refine wp.fin (v := some (vi 0)) (by decide) am_m112 rfl ⟨_, rfl, Or.inr ⟨rfl, Or.inl rfl⟩, rfl⟩ ?_
      show wp 9 154 (7, [some (vr 297), some (vi a1), none, none, none, none, none, none], [vi 0], (Wd S L F G h)) _
      refine pt154 (s' := (11, [some (vr 297), some (vi a1), none, none, none, none, none, none], [vi (-1)], (Wd S L F G h))) (by decide) [0, 0] rfl ⟨trivial, ⟨(by decide : R32 0), (by decide : (0 : Int) = (0 : Int))⟩⟩ ?_
      exact wp.fin (v := some (vi (-1))) (by decide) am_m154 rfl ⟨_, rfl, Or.inl rfl, rfl⟩ H
    · rw [if_neg c3] at H
      refine pt112 (s' := (18, [some (vj a1), none, some (vj 0), none, some (vj 1), none], [vi 1], (Wd S L F G h))) (by decide) [0, 0, 0] rfl ⟨trivial, ⟨y_cmp_r32, (fun e => c3 (y_cmp_gt.mp e))⟩⟩ ?_
      refine wp.fin (v := some (vi 1)) (by decide) am_m112 rfl ⟨_, rfl, Or.inr ⟨rfl, Or.inr rfl⟩, rfl⟩ ?_
      show wp 9 154 (7, [some (vr 297), some (vi a1), none, none, none, none, none, none], [vi 1], (Wd S L F G h)) _
      obtain ⟨g4, H⟩ := H
      refine pt154 (s' := (18, [some (vr 297), some (vi a1), none, none, none, none, none, none], [vi (F 298 1)], (Wd S L F G h))) (by decide) [1, 0, 298, 0, 0] rfl ⟨⟨⟨trivial, ⟨(by decide : R32 1), (by decide : ¬ (1 : Int) = (0 : Int))⟩⟩, ⟨Nat.le_of_ble_eq_true rfl, rfl, hh _ _ _ rfl⟩⟩, (ix ⟨Nat.le_of_ble_eq_true rfl, rfl⟩ (by decide : (0 : Int) ≤ 1 ∧ (1 : Int) < 134))⟩ ?_
      by_cases c5 : (F 298 1) = 0
      · rw [if_pos c5] at H
        refine pt154 (s' := (23, [some (vr 297), some (vi a1), none, none, none, none, none, none], [vi (-4)], (Wd S L F G h))) (by decide) [0, 0] rfl ⟨trivial, ⟨g4, c5⟩⟩ ?_
        exact wp.fin (v := some (vi (-4))) (by decide) am_m154 rfl ⟨_, rfl, Or.inl rfl, rfl⟩ H
      · rw [if_neg c5] at H
        refine pt154 (s' := (31, [some (vr 297), some (vi a1), some (vi 0), some (vi 0), some (vi 0), none, none, none], [], (Wd S L F G h))) (by decide) [1, 0, 0, 0, 0, 0, 0] rfl ⟨trivial, ⟨g4, c5⟩⟩ ?_
        exact wp.weak (a := [some (vr 297), some (vi a1), some (vi 0), some (vi 0), some (vi 0), none, none, none]) ⟨rfl, rfl, rfl, rfl, rfl, trivial⟩ H
set_option maxRecDepth 100000 in
set_option maxHeartbeats 4000000 in
theorem T154_31 {S L : Nat} {F G : Nat → Nat → Int} {h : Nat → Nat → Option Nat} (hh : RfH h) {x1 : Int} {x2 : Int} {x3 : Int} {x4 : Int}  {Q : Option V2 → W2 → Prop}
    (H : (R32 x4 ∧
 R32 (F 298 1) ∧
 (if (F 298 1) ≤ x4 then
  (R32 x2 ∧
  R32 x3 ∧
  C114_0 x2 x3 x1 (Wd S L F G h) (fun v w1 => ∃ (v6 : Int), v = some (vj v6) ∧ w1 = (Wd S L F G h) ∧
   Q (some (vi v6)) (Wd S L F G h)))
 else
  ((0 ≤ (70 + (8 * x4)) ∧ (70 + (8 * x4)) < 134) ∧
  C154_57 x1 x2 (x3 + (F 298 (70 + (8 * x4)).toNat)) x4 0 0 (Wd S L F G h) Q)))) : C154_31 x1 x2 x3 x4 (Wd S L F G h) Q := by
  obtain ⟨g1, H⟩ := H
  obtain ⟨g2, H⟩ := H
  refine pt154 (s' := (39, [some (vr 297), some (vi x1), some (vi x2), some (vi x3), some (vi x4), none, none, none], [vi (F 298 1), vi x4], (Wd S L F G h))) (by decide) [0, 0, 298, 0, 0] rfl ⟨⟨trivial, ⟨Nat.le_of_ble_eq_true rfl, rfl, hh _ _ _ rfl⟩⟩, (ix ⟨Nat.le_of_ble_eq_true rfl, rfl⟩ (by decide : (0 : Int) ≤ 1 ∧ (1 : Int) < 134))⟩ ?_
  by_cases c3 : (F 298 1) ≤ x4
  · rw [if_pos c3] at H
    obtain ⟨g4, H⟩ := H
    obtain ⟨g5, H⟩ := H
    refine pt154 (s' := (155, [some (vr 297), some (vi x1), some (vi x2), some (vi x3), some (vi x4), none, none, none], [vi x1, vj x3, vj x2], (Wd S L F G h))) (by decide) [1, 0, 0, 0, 0, 0] rfl ⟨⟨⟨trivial, ⟨⟨g1, g2⟩, c3⟩⟩, g4⟩, g5⟩ ?_
    refine wp.cl am_m154 rfl am_m114 7 [vj x2, vj x3, vi x1] [] rfl (Nat.le_of_ble_eq_true rfl) (Nat.le_of_ble_eq_true rfl) rfl (Nat.le_of_ble_eq_true rfl) rfl (Nat.le_of_ble_eq_true rfl) (Nat.le_of_ble_eq_true rfl) trivial ?_
    refine wp.mono H ?_
    rintro v w1 ⟨v6, rfl, rfl, H⟩
    show wp 9 154 (158, [some (vr 297), some (vi x1), some (vi x2), some (vi x3), some (vi x4), none, none, none], [vj v6], (Wd S L F G h)) _
    refine pt154 (s' := (159, [some (vr 297), some (vi x1), some (vi x2), some (vi x3), some (vi x4), none, none, none], [vi v6], (Wd S L F G h))) (by decide) [0] rfl trivial ?_
    exact wp.fin (v := some (vi v6)) (by decide) am_m154 rfl ⟨_, rfl, Or.inl rfl, rfl⟩ H
  · rw [if_neg c3] at H
    refine pt154 (s' := (46, [some (vr 297), some (vi x1), some (vi x2), some (vi x3), some (vi x4), none, none, none], [vi x4, vr 297, vi x3], (Wd S L F G h))) (by decide) [0, 0, 0, 0] rfl ⟨trivial, ⟨⟨g1, g2⟩, c3⟩⟩ ?_
    refine wp.cl am_m154 rfl am_m143 6 [vr 297, vi x4] [vi x3] rfl (Nat.le_of_ble_eq_true rfl) (Nat.le_of_ble_eq_true rfl) rfl (Nat.le_of_ble_eq_true rfl) rfl (Nat.le_of_ble_eq_true rfl) (Nat.le_of_ble_eq_true rfl) ⟨_, _, rfl, Nat.le_of_ble_eq_true rfl, rfl⟩ ?_
    obtain ⟨g7, H⟩ := H
    refine pt143 (s' := (12, [some (vr 297), some (vi x4)], [vi (F 298 (70 + (8 * x4)).toNat)], (Wd S L F G h))) (by decide) [0, 298, 0, 0, 0, 0, 0, 0] rfl ⟨⟨trivial, ⟨Nat.le_of_ble_eq_true rfl, rfl, hh _ _ _ rfl⟩⟩, (ix ⟨Nat.le_of_ble_eq_true rfl, rfl⟩ g7)⟩ ?_
    refine wp.fin (v := some (vi (F 298 (70 + (8 * x4)).toNat))) (by decide) am_m143 rfl ⟨_, rfl, Or.inl rfl, rfl⟩ ?_
    show wp 9 154 (49, [some (vr 297), some (vi x1), some (vi x2), some (vi x3), some (vi x4), none, none, none], [vi (F 298 (70 + (8 * x4)).toNat), vi x3], (Wd S L F G h)) _
    refine pt154 (s' := (57, [some (vr 297), some (vi x1), some (vi x2), some (vi (x3 + (F 298 (70 + (8 * x4)).toNat))), some (vi x4), some (vi 0), some (vi 0), none], [], (Wd S L F G h))) (by decide) [0, 0, 0, 0, 0, 0] rfl trivial ?_
    exact wp.weak (a := [some (vr 297), some (vi x1), some (vi x2), some (vi (x3 + (F 298 (70 + (8 * x4)).toNat))), some (vi x4), some (vi 0), some (vi 0), none]) ⟨rfl, rfl, rfl, rfl, rfl, rfl, rfl, trivial⟩ H
set_option maxRecDepth 100000 in
set_option maxHeartbeats 4000000 in
theorem T154_57 {S L : Nat} {F G : Nat → Nat → Int} {h : Nat → Nat → Option Nat} (hh : RfH h) {x1 : Int} {x2 : Int} {x3 : Int} {x4 : Int} {x5 : Int} {x6 : Int}  {Q : Option V2 → W2 → Prop}
    (H : (R32 x6 ∧
 R32 (F 298 1) ∧
 (if (F 298 1) ≤ x6 then
  C154_31 x1 (x2 + x5) x3 (x4 + 1) (Wd S L F G h) Q
 else
  C149_0 x4 (Wd S L F G h) (fun v w1 => ∃ (v4 : Int), v = some (vi v4) ∧ w1 = (Wd S L F G h) ∧
   C150_0 v4 (Wd S L F G h) (fun v w1 => ∃ (v5 : Int), v = some (vi v5) ∧ w1 = (Wd S L F G h) ∧
    (R32 v5 ∧
    R32 x4 ∧
    (if v5 = x4 then
     C149_0 x4 (Wd S L F G h) (fun v w1 => ∃ (v9 : Int), v = some (vi v9) ∧ w1 = (Wd S L F G h) ∧
      (R32 ((Int32.ofInt ((Int32.ofInt v9 >>> (Int32.ofInt x6 &&& 31)).toInt) &&& Int32.ofInt 1).toInt) ∧
      (if ((Int32.ofInt ((Int32.ofInt v9 >>> (Int32.ofInt x6 &&& 31)).toInt) &&& Int32.ofInt 1).toInt) = 1 then
       ((0 ≤ (70 + (8 * x6)) ∧ (70 + (8 * x6)) < 134) ∧
       R32 (F 298 (70 + (8 * x6)).toNat) ∧
       R32 x5 ∧
       (if (F 298 (70 + (8 * x6)).toNat) ≤ x5 then
        C154_57 x1 x2 x3 x4 x5 (x6 + 1) (Wd S L F G h) Q
       else
        C154_57 x1 x2 x3 x4 (F 298 (70 + (8 * x6)).toNat) (x6 + 1) (Wd S L F G h) Q))
      else
       C154_57 x1 x2 x3 x4 x5 (x6 + 1) (Wd S L F G h) Q)))
    else
     C154_31 x1 (x2 + x5) x3 (x4 + 1) (Wd S L F G h) Q))))))) : C154_57 x1 x2 x3 x4 x5 x6 (Wd S L F G h) Q := by
  obtain ⟨g1, H⟩ := H
  obtain ⟨g2, H⟩ := H
  refine pt154 (s' := (65, [some (vr 297), some (vi x1), some (vi x2), some (vi x3), some (vi x4), some (vi x5), some (vi x6), none], [vi (F 298 1), vi x6], (Wd S L F G h))) (by decide) [0, 0, 298, 0, 0] rfl ⟨⟨trivial, ⟨Nat.le_of_ble_eq_true rfl, rfl, hh _ _ _ rfl⟩⟩, (ix ⟨Nat.le_of_ble_eq_true rfl, rfl⟩ (by decide : (0 : Int) ≤ 1 ∧ (1 : Int) < 134))⟩ ?_
  by_cases c3 : (F 298 1) ≤ x6
  · rw [if_pos c3] at H
    refine pt154 (s' := (31, [some (vr 297), some (vi x1), some (vi (x2 + x5)), some (vi x3), some (vi (x4 + 1)), some (vi x5), some (vi x6), none], [], (Wd S L F G h))) (by decide) [1, 0, 0, 0, 0, 0, 0] rfl ⟨trivial, ⟨⟨g1, g2⟩, c3⟩⟩ ?_
    exact wp.weak (a := [some (vr 297), some (vi x1), some (vi (x2 + x5)), some (vi x3), some (vi (x4 + 1)), none, none, none]) ⟨rfl, rfl, rfl, rfl, rfl, trivial⟩ H
  · rw [if_neg c3] at H
    refine pt154 (s' := (71, [some (vr 297), some (vi x1), some (vi x2), some (vi x3), some (vi x4), some (vi x5), some (vi x6), none], [vi x4, vr 297], (Wd S L F G h))) (by decide) [0, 0, 0] rfl ⟨trivial, ⟨⟨g1, g2⟩, c3⟩⟩ ?_
    refine wp.cl am_m154 rfl am_m149 8 [vr 297, vi x4] [] rfl (Nat.le_of_ble_eq_true rfl) (Nat.le_of_ble_eq_true rfl) rfl (Nat.le_of_ble_eq_true rfl) rfl (Nat.le_of_ble_eq_true rfl) (Nat.le_of_ble_eq_true rfl) ⟨_, _, rfl, Nat.le_of_ble_eq_true rfl, rfl⟩ ?_
    refine wp.mono H ?_
    rintro v w1 ⟨v4, rfl, rfl, H⟩
    show wp 9 154 (74, [some (vr 297), some (vi x1), some (vi x2), some (vi x3), some (vi x4), some (vi x5), some (vi x6), none], [vi v4], (Wd S L F G h)) _
    refine wp.cl am_m154 rfl am_m150 6 [vi v4] [] rfl (Nat.le_of_ble_eq_true rfl) (Nat.le_of_ble_eq_true rfl) rfl (Nat.le_of_ble_eq_true rfl) rfl (Nat.le_of_ble_eq_true rfl) (Nat.le_of_ble_eq_true rfl) trivial ?_
    refine wp.mono H ?_
    rintro v w1 ⟨v5, rfl, rfl, H⟩
    show wp 9 154 (77, [some (vr 297), some (vi x1), some (vi x2), some (vi x3), some (vi x4), some (vi x5), some (vi x6), none], [vi v5], (Wd S L F G h)) _
    obtain ⟨g6, H⟩ := H
    obtain ⟨g7, H⟩ := H
    refine pt154 (s' := (79, [some (vr 297), some (vi x1), some (vi x2), some (vi x3), some (vi x4), some (vi x5), some (vi x6), none], [vi x4, vi v5], (Wd S L F G h))) (by decide) [0] rfl trivial ?_
    by_cases c8 : v5 = x4
    · rw [if_pos c8] at H
      refine pt154 (s' := (85, [some (vr 297), some (vi x1), some (vi x2), some (vi x3), some (vi x4), some (vi x5), some (vi x6), none], [vi x4, vr 297], (Wd S L F G h))) (by decide) [0, 0, 0] rfl ⟨trivial, ⟨⟨g6, g7⟩, c8⟩⟩ ?_
      refine wp.cl am_m154 rfl am_m149 8 [vr 297, vi x4] [] rfl (Nat.le_of_ble_eq_true rfl) (Nat.le_of_ble_eq_true rfl) rfl (Nat.le_of_ble_eq_true rfl) rfl (Nat.le_of_ble_eq_true rfl) (Nat.le_of_ble_eq_true rfl) ⟨_, _, rfl, Nat.le_of_ble_eq_true rfl, rfl⟩ ?_
      refine wp.mono H ?_
      rintro v w1 ⟨v9, rfl, rfl, H⟩
      show wp 9 154 (88, [some (vr 297), some (vi x1), some (vi x2), some (vi x3), some (vi x4), some (vi x5), some (vi x6), none], [vi v9], (Wd S L F G h)) _
      obtain ⟨g10, H⟩ := H
      refine pt154 (s' := (94, [some (vr 297), some (vi x1), some (vi x2), some (vi x3), some (vi x4), some (vi x5), some (vi x6), none], [vi 1, vi ((Int32.ofInt ((Int32.ofInt v9 >>> (Int32.ofInt x6 &&& 31)).toInt) &&& Int32.ofInt 1).toInt)], (Wd S L F G h))) (by decide) [0, 0, 0, 0, 0] rfl trivial ?_
      by_cases c11 : ((Int32.ofInt ((Int32.ofInt v9 >>> (Int32.ofInt x6 &&& 31)).toInt) &&& Int32.ofInt 1).toInt) = 1
      · rw [if_pos c11] at H
        refine pt154 (s' := (100, [some (vr 297), some (vi x1), some (vi x2), some (vi x3), some (vi x4), some (vi x5), some (vi x6), none], [vi x6, vr 297], (Wd S L F G h))) (by decide) [0, 0, 0] rfl ⟨trivial, ⟨⟨g10, (by decide : R32 1)⟩, c11⟩⟩ ?_
        refine wp.cl am_m154 rfl am_m143 6 [vr 297, vi x6] [] rfl (Nat.le_of_ble_eq_true rfl) (Nat.le_of_ble_eq_true rfl) rfl (Nat.le_of_ble_eq_true rfl) rfl (Nat.le_of_ble_eq_true rfl) (Nat.le_of_ble_eq_true rfl) ⟨_, _, rfl, Nat.le_of_ble_eq_true rfl, rfl⟩ ?_
        obtain ⟨g12, H⟩ := H
        refine pt143 (s' := (12, [some (vr 297), some (vi x6)], [vi (F 298 (70 + (8 * x6)).toNat)], (Wd S L F G h))) (by decide) [0, 298, 0, 0, 0, 0, 0, 0] rfl ⟨⟨trivial, ⟨Nat.le_of_ble_eq_true rfl, rfl, hh _ _ _ rfl⟩⟩, (ix ⟨Nat.le_of_ble_eq_true rfl, rfl⟩ g12)⟩ ?_
        refine wp.fin (v := some (vi (F 298 (70 + (8 * x6)).toNat))) (by decide) am_m143 rfl ⟨_, rfl, Or.inl rfl, rfl⟩ ?_
        show wp 9 154 (103, [some (vr 297), some (vi x1), some (vi x2), some (vi x3), some (vi x4), some (vi x5), some (vi x6), none], [vi (F 298 (70 + (8 * x6)).toNat)], (Wd S L F G h)) _
        obtain ⟨g13, H⟩ := H
        obtain ⟨g14, H⟩ := H
        refine pt154 (s' := (105, [some (vr 297), some (vi x1), some (vi x2), some (vi x3), some (vi x4), some (vi x5), some (vi x6), none], [vi x5, vi (F 298 (70 + (8 * x6)).toNat)], (Wd S L F G h))) (by decide) [0] rfl trivial ?_
        by_cases c15 : (F 298 (70 + (8 * x6)).toNat) ≤ x5
        · rw [if_pos c15] at H
          refine pt154 (s' := (57, [some (vr 297), some (vi x1), some (vi x2), some (vi x3), some (vi x4), some (vi x5), some (vi (x6 + 1)), some (vi 0)], [], (Wd S L F G h))) (by decide) [1, 0, 0, 0, 1, 0, 0, 0, 0] rfl ⟨⟨trivial, ⟨⟨g13, g14⟩, c15⟩⟩, ⟨(by decide : R32 0), (by decide : (0 : Int) = (0 : Int))⟩⟩ ?_
          exact wp.weak (a := [some (vr 297), some (vi x1), some (vi x2), some (vi x3), some (vi x4), some (vi x5), some (vi (x6 + 1)), none]) ⟨rfl, rfl, rfl, rfl, rfl, rfl, rfl, trivial⟩ H
        · rw [if_neg c15] at H
          refine pt154 (s' := (123, [some (vr 297), some (vi x1), some (vi x2), some (vi x3), some (vi x4), some (vi x5), some (vi x6), some (vi 1)], [vi x6, vr 297], (Wd S L F G h))) (by decide) [0, 0, 0, 0, 0, 0, 0, 0] rfl ⟨⟨trivial, ⟨⟨g13, g14⟩, c15⟩⟩, ⟨(by decide : R32 1), (by decide : ¬ (1 : Int) = (0 : Int))⟩⟩ ?_
          refine wp.cl am_m154 rfl am_m143 6 [vr 297, vi x6] [] rfl (Nat.le_of_ble_eq_true rfl) (Nat.le_of_ble_eq_true rfl) rfl (Nat.le_of_ble_eq_true rfl) rfl (Nat.le_of_ble_eq_true rfl) (Nat.le_of_ble_eq_true rfl) ⟨_, _, rfl, Nat.le_of_ble_eq_true rfl, rfl⟩ ?_
          refine pt143 (s' := (12, [some (vr 297), some (vi x6)], [vi (F 298 (70 + (8 * x6)).toNat)], (Wd S L F G h))) (by decide) [0, 298, 0, 0, 0, 0, 0, 0] rfl ⟨⟨trivial, ⟨Nat.le_of_ble_eq_true rfl, rfl, hh _ _ _ rfl⟩⟩, (ix ⟨Nat.le_of_ble_eq_true rfl, rfl⟩ g12)⟩ ?_
          refine wp.fin (v := some (vi (F 298 (70 + (8 * x6)).toNat))) (by decide) am_m143 rfl ⟨_, rfl, Or.inl rfl, rfl⟩ ?_
          show wp 9 154 (126, [some (vr 297), some (vi x1), some (vi x2), some (vi x3), some (vi x4), some (vi x5), some (vi x6), some (vi 1)], [vi (F 298 (70 + (8 * x6)).toNat)], (Wd S L F G h)) _
          refine pt154 (s' := (57, [some (vr 297), some (vi x1), some (vi x2), some (vi x3), some (vi x4), some (vi (F 298 (70 + (8 * x6)).toNat)), some (vi (x6 + 1)), some (vi 1)], [], (Wd S L F G h))) (by decide) [0, 0, 0, 0] rfl trivial ?_
          exact wp.weak (a := [some (vr 297), some (vi x1), some (vi x2), some (vi x3), some (vi x4), some (vi (F 298 (70 + (8 * x6)).toNat)), some (vi (x6 + 1)), none]) ⟨rfl, rfl, rfl, rfl, rfl, rfl, rfl, trivial⟩ H
      · rw [if_neg c11] at H
        refine pt154 (s' := (57, [some (vr 297), some (vi x1), some (vi x2), some (vi x3), some (vi x4), some (vi x5), some (vi (x6 + 1)), some (vi 0)], [], (Wd S L F G h))) (by decide) [1, 0, 0, 0, 1, 0, 0, 0, 0] rfl ⟨⟨trivial, ⟨⟨g10, (by decide : R32 1)⟩, c11⟩⟩, ⟨(by decide : R32 0), (by decide : (0 : Int) = (0 : Int))⟩⟩ ?_
        exact wp.weak (a := [some (vr 297), some (vi x1), some (vi x2), some (vi x3), some (vi x4), some (vi x5), some (vi (x6 + 1)), none]) ⟨rfl, rfl, rfl, rfl, rfl, rfl, rfl, trivial⟩ H
    · rw [if_neg c8] at H
      refine pt154 (s' := (31, [some (vr 297), some (vi x1), some (vi (x2 + x5)), some (vi x3), some (vi (x4 + 1)), some (vi x5), some (vi x6), none], [], (Wd S L F G h))) (by decide) [1, 0, 0, 0, 0, 0, 0] rfl ⟨trivial, ⟨⟨g6, g7⟩, c8⟩⟩ ?_
      exact wp.weak (a := [some (vr 297), some (vi x1), some (vi (x2 + x5)), some (vi x3), some (vi (x4 + 1)), none, none, none]) ⟨rfl, rfl, rfl, rfl, rfl, trivial⟩ H
set_option maxRecDepth 100000 in
set_option maxHeartbeats 4000000 in
theorem T155_0 {S L : Nat} {F G : Nat → Nat → Int} {h : Nat → Nat → Option Nat} (hh : RfH h)   {Q : Option V2 → W2 → Prop}
    (H : C155_2 0 (Wd S L F G h) Q) : C155_0  (Wd S L F G h) Q := by
  refine pt155 (s' := (2, [some (vr 297), some (vi 0)], [], (Wd S L F G h))) (by decide) [0, 0] rfl trivial ?_
  exact wp.weak (a := [some (vr 297), some (vi 0)]) ⟨rfl, rfl, trivial⟩ H
set_option maxRecDepth 100000 in
set_option maxHeartbeats 4000000 in
theorem T155_2 {S L : Nat} {F G : Nat → Nat → Int} {h : Nat → Nat → Option Nat} (hh : RfH h) {x1 : Int}  {Q : Option V2 → W2 → Prop}
    (H : (R32 x1 ∧
 (if 134 ≤ x1 then
  Q (none) (Wd S L F G h)
 else
  ((0 ≤ x1 ∧ x1 < 134) ∧
  C155_2 (x1 + 1) (Wd S L (am_up F 311 x1.toNat (F 298 x1.toNat)) G h) Q)))) : C155_2 x1 (Wd S L F G h) Q := by
  obtain ⟨g1, H⟩ := H
  refine pt155 (s' := (6, [some (vr 297), some (vi x1)], [vi 134, vi x1], (Wd S L F G h))) (by decide) [0, 0] rfl trivial ?_
  by_cases c2 : 134 ≤ x1
  · rw [if_pos c2] at H
    refine pt155 (s' := (27, [some (vr 297), some (vi x1)], [], (Wd S L F G h))) (by decide) [1] rfl ⟨trivial, ⟨⟨g1, (by decide : R32 134)⟩, c2⟩⟩ ?_
    exact wp.fin (v := none) (by decide) am_m155 rfl ⟨rfl, rfl, rfl⟩ H
  · rw [if_neg c2] at H
    obtain ⟨g3, H⟩ := H
    refine pt155 (s' := (2, [some (vr 297), some (vi (x1 + 1))], [], (Wd S L (am_up F 311 x1.toNat (F 298 x1.toNat)) G h))) (by decide) [0, 0, 311, 0, 0, 298, 0, 0, 0, 0, 0] rfl ⟨⟨⟨⟨⟨trivial, ⟨⟨g1, (by decide : R32 134)⟩, c2⟩⟩, ⟨Nat.le_of_ble_eq_true rfl, rfl, hh _ _ _ rfl⟩⟩, ⟨Nat.le_of_ble_eq_true rfl, rfl, hh _ _ _ rfl⟩⟩, (ix ⟨Nat.le_of_ble_eq_true rfl, rfl⟩ g3)⟩, (ix ⟨Nat.le_of_ble_eq_true rfl, rfl⟩ g3)⟩ ?_
    exact wp.weak (a := [some (vr 297), some (vi (x1 + 1))]) ⟨rfl, rfl, trivial⟩ H
set_option maxRecDepth 100000 in
set_option maxHeartbeats 4000000 in
theorem T156_0 {S L : Nat} {F G : Nat → Nat → Int} {h : Nat → Nat → Option Nat} (hh : RfH h)   {Q : Option V2 → W2 → Prop}
    (H : (R32 (F 297 2) ∧
 (if (F 297 2) = 6 then
  C156_11 0 (Wd S L F G h) Q
 else
  C156_47 0 (Wd S L F G h) Q))) : C156_0  (Wd S L F G h) Q := by
  obtain ⟨g1, H⟩ := H
  refine pt156 (s' := (6, [some (vr 297), none], [vi 6, vi (F 297 2)], (Wd S L F G h))) (by decide) [0, 0, 0] rfl ⟨trivial, ⟨Nat.le_of_ble_eq_true rfl, rfl⟩⟩ ?_
  by_cases c2 : (F 297 2) = 6
  · rw [if_pos c2] at H
    refine pt156 (s' := (11, [some (vr 297), some (vi 0)], [], (Wd S L F G h))) (by decide) [0, 0, 0] rfl ⟨trivial, ⟨⟨g1, (by decide : R32 6)⟩, c2⟩⟩ ?_
    exact wp.weak (a := [some (vr 297), some (vi 0)]) ⟨rfl, rfl, trivial⟩ H
  · rw [if_neg c2] at H
    refine pt156 (s' := (47, [some (vr 297), some (vi 0)], [], (Wd S L F G h))) (by decide) [1, 0, 0] rfl ⟨trivial, ⟨⟨g1, (by decide : R32 6)⟩, c2⟩⟩ ?_
    exact wp.weak (a := [some (vr 297), some (vi 0)]) ⟨rfl, rfl, trivial⟩ H
set_option maxRecDepth 100000 in
set_option maxHeartbeats 4000000 in
theorem T156_11 {S L : Nat} {F G : Nat → Nat → Int} {h : Nat → Nat → Option Nat} (hh : RfH h) {x1 : Int}  {Q : Option V2 → W2 → Prop}
    (H : (R32 x1 ∧
 (if 670 ≤ x1 then
  C156_47 0 (Wd S L (am_up F 297 2 5) G h) Q
 else
  ((0 ≤ (x1 + 134) ∧ (x1 + 134) < 804) ∧
  (0 ≤ x1 ∧ x1 < 804) ∧
  C156_11 (x1 + 1) (Wd S L (am_up F 299 x1.toNat (F 299 (x1 + 134).toNat)) G h) Q)))) : C156_11 x1 (Wd S L F G h) Q := by
  obtain ⟨g1, H⟩ := H
  refine pt156 (s' := (15, [some (vr 297), some (vi x1)], [vi 670, vi x1], (Wd S L F G h))) (by decide) [0, 0] rfl trivial ?_
  by_cases c2 : 670 ≤ x1
  · rw [if_pos c2] at H
    refine pt156 (s' := (47, [some (vr 297), some (vi 0)], [], (Wd S L (am_up F 297 2 5) G h))) (by decide) [1, 0, 0, 0, 0, 0] rfl ⟨⟨trivial, ⟨⟨g1, (by decide : R32 670)⟩, c2⟩⟩, ⟨Nat.le_of_ble_eq_true rfl, rfl, fun h => by cases h⟩⟩ ?_
    exact wp.weak (a := [some (vr 297), some (vi 0)]) ⟨rfl, rfl, trivial⟩ H
  · rw [if_neg c2] at H
    obtain ⟨g3, H⟩ := H
    obtain ⟨g4, H⟩ := H
    refine pt156 (s' := (11, [some (vr 297), some (vi (x1 + 1))], [], (Wd S L (am_up F 299 x1.toNat (F 299 (x1 + 134).toNat)) G h))) (by decide) [0, 0, 299, 0, 0, 299, 0, 0, 0, 0, 0, 0, 0] rfl ⟨⟨⟨⟨⟨trivial, ⟨⟨g1, (by decide : R32 670)⟩, c2⟩⟩, ⟨Nat.le_of_ble_eq_true rfl, rfl, hh _ _ _ rfl⟩⟩, ⟨Nat.le_of_ble_eq_true rfl, rfl, hh _ _ _ rfl⟩⟩, (ix ⟨Nat.le_of_ble_eq_true rfl, rfl⟩ g3)⟩, (ix ⟨Nat.le_of_ble_eq_true rfl, rfl⟩ g4)⟩ ?_
    exact wp.weak (a := [some (vr 297), some (vi (x1 + 1))]) ⟨rfl, rfl, trivial⟩ H
set_option maxRecDepth 100000 in
set_option maxHeartbeats 4000000 in
theorem T156_47 {S L : Nat} {F G : Nat → Nat → Int} {h : Nat → Nat → Option Nat} (hh : RfH h) {x1 : Int}  {Q : Option V2 → W2 → Prop}
    (H : (R32 x1 ∧
 (if 134 ≤ x1 then
  Q (none) (Wd S L (am_up F 297 2 ((F 297 2) + 1)) G h)
 else
  ((0 ≤ x1 ∧ x1 < 134) ∧
  (0 ≤ ((134 * (F 297 2)) + x1) ∧ ((134 * (F 297 2)) + x1) < 804) ∧
  C156_47 (x1 + 1) (Wd S L (am_up F 299 ((134 * (F 297 2)) + x1).toNat (F 311 x1.toNat)) G h) Q)))) : C156_47 x1 (Wd S L F G h) Q := by
  obtain ⟨g1, H⟩ := H
  refine pt156 (s' := (51, [some (vr 297), some (vi x1)], [vi 134, vi x1], (Wd S L F G h))) (by decide) [0, 0] rfl trivial ?_
  by_cases c2 : 134 ≤ x1
  · rw [if_pos c2] at H
    refine pt156 (s' := (91, [some (vr 297), some (vi x1)], [], (Wd S L (am_up F 297 2 ((F 297 2) + 1)) G h))) (by decide) [1, 0, 0, 0, 0, 0, 0] rfl ⟨⟨⟨trivial, ⟨⟨g1, (by decide : R32 134)⟩, c2⟩⟩, ⟨Nat.le_of_ble_eq_true rfl, rfl⟩⟩, ⟨Nat.le_of_ble_eq_true rfl, rfl, fun h => by cases h⟩⟩ ?_
    exact wp.fin (v := none) (by decide) am_m156 rfl ⟨rfl, rfl, rfl⟩ H
  · rw [if_neg c2] at H
    obtain ⟨g3, H⟩ := H
    obtain ⟨g4, H⟩ := H
    refine pt156 (s' := (47, [some (vr 297), some (vi (x1 + 1))], [], (Wd S L (am_up F 299 ((134 * (F 297 2)) + x1).toNat (F 311 x1.toNat)) G h))) (by decide) [0, 0, 299, 0, 0, 0, 0, 0, 0, 0, 311, 0, 0, 0, 0, 0] rfl ⟨⟨⟨⟨⟨⟨trivial, ⟨⟨g1, (by decide : R32 134)⟩, c2⟩⟩, ⟨Nat.le_of_ble_eq_true rfl, rfl, hh _ _ _ rfl⟩⟩, ⟨Nat.le_of_ble_eq_true rfl, rfl⟩⟩, ⟨Nat.le_of_ble_eq_true rfl, rfl, hh _ _ _ rfl⟩⟩, (ix ⟨Nat.le_of_ble_eq_true rfl, rfl⟩ g3)⟩, (ix ⟨Nat.le_of_ble_eq_true rfl, rfl⟩ g4)⟩ ?_
    exact wp.weak (a := [some (vr 297), some (vi (x1 + 1))]) ⟨rfl, rfl, trivial⟩ H
set_option maxRecDepth 100000 in
set_option maxHeartbeats 4000000 in
theorem T158_0 {S L : Nat} {F G : Nat → Nat → Int} {h : Nat → Nat → Option Nat} (hh : RfH h) {a1 : Int} {a2 : Int} {a3 : Int}  {Q : Option V2 → W2 → Prop}
    (H : (R32 a1 ∧
 (if a1 < 0 then
  Q (some (vi (-1))) (Wd S L F G h)
 else
  (if 7 < a1 then
   Q (some (vi (-1))) (Wd S L F G h)
  else
   (R32 a2 ∧
   (if a2 < 0 then
    Q (some (vi (-1))) (Wd S L F G h)
   else
    (if 12 < a2 then
     Q (some (vi (-1))) (Wd S L F G h)
    else
     (R32 a3 ∧
     (if a3 < 0 then
      Q (some (vi (-1))) (Wd S L F G h)
     else
      (if 12 < a3 then
       Q (some (vi (-1))) (Wd S L F G h)
      else
       ((0 ≤ (6 + a1) ∧ (6 + a1) < 134) ∧
       (0 ≤ (14 + a1) ∧ (14 + a1) < 134) ∧
       R32 ((13 * (F 298 (6 + a1).toNat)) + (F 298 (14 + a1).toNat)) ∧
       R32 ((13 * a2) + a3) ∧
       (if ((13 * (F 298 (6 + a1).toNat)) + (F 298 (14 + a1).toNat)) = ((13 * a2) + a3) then
        Q (some (vi (-2))) (Wd S L (am_up (am_up F 298 (6 + a1).toNat a2) 298 (14 + a1).toNat a3) G h)
       else
        Q (some (vi ((13 * (F 298 (6 + a1).toNat)) + (F 298 (14 + a1).toNat)))) (Wd S L (am_up (am_up F 298 (6 + a1).toNat a2) 298 (14 + a1).toNat a3) G h))))))))))))) : C158_0 a1 a2 a3 (Wd S L F G h) Q := by
  obtain ⟨g1, H⟩ := H
  refine pt158 (s' := (6, [some (vr 297), some (vi a1), some (vi a2), some (vi a3), none], [vj 7, vj 0, vj a1], (Wd S L F G h))) (by decide) [0, 0, 0, 0] rfl ⟨trivial, g1⟩ ?_
  refine wp.cl am_m158 rfl am_m112 6 [vj a1, vj 0, vj 7] [] rfl (Nat.le_of_ble_eq_true rfl) (Nat.le_of_ble_eq_true rfl) rfl (Nat.le_of_ble_eq_true rfl) rfl (Nat.le_of_ble_eq_true rfl) (Nat.le_of_ble_eq_true rfl) trivial ?_
  refine pt112 (s' := (3, [some (vj a1), none, some (vj 0), none, some (vj 7), none], [vi (y_cmp a1 0)], (Wd S L F G h))) (by decide) [0, 0, 0] rfl ⟨trivial, ⟨(r64 g1), (by decide : R64 0)⟩⟩ ?_
  by_cases c2 : a1 < 0
  · rw [if_pos c2] at H
    refine pt112 (s' := (18, [some (vj a1), none, some (vj 0), none, some (vj 7), none], [vi 0], (Wd S L F G h))) (by decide) [1, 0] rfl ⟨trivial, ⟨y_cmp_r32, (y_cmp_lt.mpr c2)⟩⟩ ?_
    refine wp.fin (v := some (vi 0)) (by decide) am_m112 rfl ⟨_, rfl, Or.inr ⟨rfl, Or.inl rfl⟩, rfl⟩ ?_
    show wp 7 158 (9, [some (vr 297), some (vi a1), some (vi a2), some (vi a3), none], [vi 0], (Wd S L F G h)) _
    refine pt158 (s' := (37, [some (vr 297), some (vi a1), some (vi a2), some (vi a3), none], [vi (-1)], (Wd S L F G h))) (by decide) [1, 0] rfl ⟨trivial, ⟨(by decide : R32 0), (by decide : (0 : Int) = (0 : Int))⟩⟩ ?_
    exact wp.fin (v := some (vi (-1))) (by decide) am_m158 rfl ⟨_, rfl, Or.inl rfl, rfl⟩ H
  · rw [if_neg c2] at H
    refine pt112 (s' := (10, [some (vj a1), none, some (vj 0), none, some (vj 7), none], [vi (y_cmp a1 7)], (Wd S L F G h))) (by decide) [0, 0, 0, 0] rfl ⟨⟨trivial, ⟨y_cmp_r32, (fun e => c2 (y_cmp_lt.mp e))⟩⟩, ⟨(r64 g1), (by decide : R64 7)⟩⟩ ?_
    by_cases c3 : 7 < a1
    · rw [if_pos c3] at H
      refine pt112 (s' := (18, [some (vj a1), none, some (vj 0), none, some (vj 7), none], [vi 0], (Wd S L F G h))) (by decide) [1, 0] rfl ⟨trivial, ⟨y_cmp_r32, (y_cmp_gt.mpr c3)⟩⟩ ?_
      refine wp.fin (v := some (vi 0)) (by decide) am_m112 rfl ⟨_, rfl, Or.inr ⟨rfl, Or.inl rfl⟩, rfl⟩ ?_
      show wp 7 158 (9, [some (vr 297), some (vi a1), some (vi a2), some (vi a3), none], [vi 0], (Wd S L F G h)) _
      refine pt158 (s' := (37, [some (vr 297), some (vi a1), some (vi a2), some (vi a3), none], [vi (-1)], (Wd S L F G h))) (by decide) [1, 0] rfl ⟨trivial, ⟨(by decide : R32 0), (by decide : (0 : Int) = (0 : Int))⟩⟩ ?_
      exact wp.fin (v := some (vi (-1))) (by decide) am_m158 rfl ⟨_, rfl, Or.inl rfl, rfl⟩ H
    · rw [if_neg c3] at H
      refine pt112 (s' := (18, [some (vj a1), none, some (vj 0), none, some (vj 7), none], [vi 1], (Wd S L F G h))) (by decide) [0, 0, 0] rfl ⟨trivial, ⟨y_cmp_r32, (fun e => c3 (y_cmp_gt.mp e))⟩⟩ ?_
      refine wp.fin (v := some (vi 1)) (by decide) am_m112 rfl ⟨_, rfl, Or.inr ⟨rfl, Or.inr rfl⟩, rfl⟩ ?_
      show wp 7 158 (9, [some (vr 297), some (vi a1), some (vi a2), some (vi a3), none], [vi 1], (Wd S L F G h)) _
      obtain ⟨g4, H⟩ := H
      refine pt158 (s' := (18, [some (vr 297), some (vi a1), some (vi a2), some (vi a3), none], [vj 12, vj 0, vj a2], (Wd S L F G h))) (by decide) [0, 0, 0, 0, 0] rfl ⟨⟨trivial, ⟨(by decide : R32 1), (by decide : ¬ (1 : Int) = (0 : Int))⟩⟩, g4⟩ ?_
      refine wp.cl am_m158 rfl am_m112 6 [vj a2, vj 0, vj 12] [] rfl (Nat.le_of_ble_eq_true rfl) (Nat.le_of_ble_eq_true rfl) rfl (Nat.le_of_ble_eq_true rfl) rfl (Nat.le_of_ble_eq_true rfl) (Nat.le_of_ble_eq_true rfl) trivial ?_
      refine pt112 (s' := (3, [some (vj a2), none, some (vj 0), none, some (vj 12), none], [vi (y_cmp a2 0)], (Wd S L F G h))) (by decide) [0, 0, 0] rfl ⟨trivial, ⟨(r64 g4), (by decide : R64 0)⟩⟩ ?_
      by_cases c5 : a2 < 0
      · rw [if_pos c5] at H
        refine pt112 (s' := (18, [some (vj a2), none, some (vj 0), none, some (vj 12), none], [vi 0], (Wd S L F G h))) (by decide) [1, 0] rfl ⟨trivial, ⟨y_cmp_r32, (y_cmp_lt.mpr c5)⟩⟩ ?_
        refine wp.fin (v := some (vi 0)) (by decide) am_m112 rfl ⟨_, rfl, Or.inr ⟨rfl, Or.inl rfl⟩, rfl⟩ ?_
        show wp 7 158 (21, [some (vr 297), some (vi a1), some (vi a2), some (vi a3), none], [vi 0], (Wd S L F G h)) _
        refine pt158 (s' := (37, [some (vr 297), some (vi a1), some (vi a2), some (vi a3), none], [vi (-1)], (Wd S L F G h))) (by decide) [1, 0] rfl ⟨trivial, ⟨(by decide : R32 0), (by decide : (0 : Int) = (0 : Int))⟩⟩ ?_
        exact wp.fin (v := some (vi (-1))) (by decide) am_m158 rfl ⟨_, rfl, Or.inl rfl, rfl⟩ H
      · rw [if_neg c5] at H
        refine pt112 (s' := (10, [some (vj a2), none, some (vj 0), none, some (vj 12), none], [vi (y_cmp a2 12)], (Wd S L F G h))) (by decide) [0, 0, 0, 0] rfl ⟨⟨trivial, ⟨y_cmp_r32, (fun e => c5 (y_cmp_lt.mp e))⟩⟩, ⟨(r64 g4), (by decide : R64 12)⟩⟩ ?_
        by_cases c6 : 12 < a2
        · rw [if_pos c6] at H
          refine pt112 (s' := (18, [some (vj a2), none, some (vj 0), none, some (vj 12), none], [vi 0], (Wd S L F G h))) (by decide) [1, 0] rfl ⟨trivial, ⟨y_cmp_r32, (y_cmp_gt.mpr c6)⟩⟩ ?_
          refine wp.fin (v := some (vi 0)) (by decide) am_m112 rfl ⟨_, rfl, Or.inr ⟨rfl, Or.inl rfl⟩, rfl⟩ ?_
          show wp 7 158 (21, [some (vr 297), some (vi a1), some (vi a2), some (vi a3), none], [vi 0], (Wd S L F G h)) _
          refine pt158 (s' := (37, [some (vr 297), some (vi a1), some (vi a2), some (vi a3), none], [vi (-1)], (Wd S L F G h))) (by decide) [1, 0] rfl ⟨trivial, ⟨(by decide : R32 0), (by decide : (0 : Int) = (0 : Int))⟩⟩ ?_
          exact wp.fin (v := some (vi (-1))) (by decide) am_m158 rfl ⟨_, rfl, Or.inl rfl, rfl⟩ H
        · rw [if_neg c6] at H
          refine pt112 (s' := (18, [some (vj a2), none, some (vj 0), none, some (vj 12), none], [vi 1], (Wd S L F G h))) (by decide) [0, 0, 0] rfl ⟨trivial, ⟨y_cmp_r32, (fun e => c6 (y_cmp_gt.mp e))⟩⟩ ?_
          refine wp.fin (v := some (vi 1)) (by decide) am_m112 rfl ⟨_, rfl, Or.inr ⟨rfl, Or.inr rfl⟩, rfl⟩ ?_
          show wp 7 158 (21, [some (vr 297), some (vi a1), some (vi a2), some (vi a3), none], [vi 1], (Wd S L F G h)) _
          obtain ⟨g7, H⟩ := H
          refine pt158 (s' := (30, [some (vr 297), some (vi a1), some (vi a2), some (vi a3), none], [vj 12, vj 0, vj a3], (Wd S L F G h))) (by decide) [0, 0, 0, 0, 0] rfl ⟨⟨trivial, ⟨(by decide : R32 1), (by decide : ¬ (1 : Int) = (0 : Int))⟩⟩, g7⟩ ?_
          refine wp.cl am_m158 rfl am_m112 6 [vj a3, vj 0, vj 12] [] rfl (Nat.le_of_ble_eq_true rfl) (Nat.le_of_ble_eq_true rfl) rfl (Nat.le_of_ble_eq_true rfl) rfl (Nat.le_of_ble_eq_true rfl) (Nat.le_of_ble_eq_true rfl) trivial ?_
          refine pt112 (s' := (3, [some (vj a3), none, some (vj 0), none, some (vj 12), none], [vi (y_cmp a3 0)], (Wd S L F G h))) (by decide) [0, 0, 0] rfl ⟨trivial, ⟨(r64 g7), (by decide : R64 0)⟩⟩ ?_
          by_cases c8 : a3 < 0
          · rw [if_pos c8] at H
            refine pt112 (s' := (18, [some (vj a3), none, some (vj 0), none, some (vj 12), none], [vi 0], (Wd S L F G h))) (by decide) [1, 0] rfl ⟨trivial, ⟨y_cmp_r32, (y_cmp_lt.mpr c8)⟩⟩ ?_
            refine wp.fin (v := some (vi 0)) (by decide) am_m112 rfl ⟨_, rfl, Or.inr ⟨rfl, Or.inl rfl⟩, rfl⟩ ?_
            show wp 7 158 (33, [some (vr 297), some (vi a1), some (vi a2), some (vi a3), none], [vi 0], (Wd S L F G h)) _
            refine pt158 (s' := (37, [some (vr 297), some (vi a1), some (vi a2), some (vi a3), none], [vi (-1)], (Wd S L F G h))) (by decide) [0, 0] rfl ⟨trivial, ⟨(by decide : R32 0), (by decide : (0 : Int) = (0 : Int))⟩⟩ ?_
            exact wp.fin (v := some (vi (-1))) (by decide) am_m158 rfl ⟨_, rfl, Or.inl rfl, rfl⟩ H
          · rw [if_neg c8] at H
            refine pt112 (s' := (10, [some (vj a3), none, some (vj 0), none, some (vj 12), none], [vi (y_cmp a3 12)], (Wd S L F G h))) (by decide) [0, 0, 0, 0] rfl ⟨⟨trivial, ⟨y_cmp_r32, (fun e => c8 (y_cmp_lt.mp e))⟩⟩, ⟨(r64 g7), (by decide : R64 12)⟩⟩ ?_
            by_cases c9 : 12 < a3
            · rw [if_pos c9] at H
              refine pt112 (s' := (18, [some (vj a3), none, some (vj 0), none, some (vj 12), none], [vi 0], (Wd S L F G h))) (by decide) [1, 0] rfl ⟨trivial, ⟨y_cmp_r32, (y_cmp_gt.mpr c9)⟩⟩ ?_
              refine wp.fin (v := some (vi 0)) (by decide) am_m112 rfl ⟨_, rfl, Or.inr ⟨rfl, Or.inl rfl⟩, rfl⟩ ?_
              show wp 7 158 (33, [some (vr 297), some (vi a1), some (vi a2), some (vi a3), none], [vi 0], (Wd S L F G h)) _
              refine pt158 (s' := (37, [some (vr 297), some (vi a1), some (vi a2), some (vi a3), none], [vi (-1)], (Wd S L F G h))) (by decide) [0, 0] rfl ⟨trivial, ⟨(by decide : R32 0), (by decide : (0 : Int) = (0 : Int))⟩⟩ ?_
              exact wp.fin (v := some (vi (-1))) (by decide) am_m158 rfl ⟨_, rfl, Or.inl rfl, rfl⟩ H
            · rw [if_neg c9] at H
              refine pt112 (s' := (18, [some (vj a3), none, some (vj 0), none, some (vj 12), none], [vi 1], (Wd S L F G h))) (by decide) [0, 0, 0] rfl ⟨trivial, ⟨y_cmp_r32, (fun e => c9 (y_cmp_gt.mp e))⟩⟩ ?_
              refine wp.fin (v := some (vi 1)) (by decide) am_m112 rfl ⟨_, rfl, Or.inr ⟨rfl, Or.inr rfl⟩, rfl⟩ ?_
              show wp 7 158 (33, [some (vr 297), some (vi a1), some (vi a2), some (vi a3), none], [vi 1], (Wd S L F G h)) _
              obtain ⟨g10, H⟩ := H
              obtain ⟨g11, H⟩ := H
              obtain ⟨g12, H⟩ := H
              obtain ⟨g13, H⟩ := H
              refine pt158 (s' := (90, [some (vr 297), some (vi a1), some (vi a2), some (vi a3), some (vi ((13 * (F 298 (6 + a1).toNat)) + (F 298 (14 + a1).toNat)))], [vi ((13 * a2) + a3), vi ((13 * (F 298 (6 + a1).toNat)) + (F 298 (14 + a1).toNat))], (Wd S L (am_up (am_up F 298 (6 + a1).toNat a2) 298 (14 + a1).toNat a3) G h))) (by decide) [1, 0, 0, 298, 0, 0, 0, 0, 0, 0, 298, 0, 0, 0, 0, 0, 0, 0, 298, 0, 0, 0, 0, 0, 0, 298, 0, 0, 0, 0, 0, 0, 0, 0, 0, 0, 0] rfl ⟨⟨⟨⟨⟨⟨⟨⟨⟨trivial, ⟨(by decide : R32 1), (by decide : ¬ (1 : Int) = (0 : Int))⟩⟩, ⟨Nat.le_of_ble_eq_true rfl, rfl, hh _ _ _ rfl⟩⟩, (ix ⟨Nat.le_of_ble_eq_true rfl, rfl⟩ g10)⟩, ⟨Nat.le_of_ble_eq_true rfl, rfl, hh _ _ _ rfl⟩⟩, (ix ⟨Nat.le_of_ble_eq_true rfl, rfl⟩ g11)⟩, ⟨Nat.le_of_ble_eq_true rfl, rfl, hh _ _ _ rfl⟩⟩, (ix ⟨Nat.le_of_ble_eq_true rfl, rfl⟩ g10)⟩, ⟨Nat.le_of_ble_eq_true rfl, rfl, hh _ _ _ rfl⟩⟩, (ix ⟨Nat.le_of_ble_eq_true rfl, rfl⟩ g11)⟩ ?_
              by_cases c14 : ((13 * (F 298 (6 + a1).toNat)) + (F 298 (14 + a1).toNat)) = ((13 * a2) + a3)
              · rw [if_pos c14] at H
                refine pt158 (s' := (100, [some (vr 297), some (vi a1), some (vi a2), some (vi a3), some (vi ((13 * (F 298 (6 + a1).toNat)) + (F 298 (14 + a1).toNat)))], [vi (-2)], (Wd S L (am_up (am_up F 298 (6 + a1).toNat a2) 298 (14 + a1).toNat a3) G h))) (by decide) [0, 0, 0] rfl ⟨trivial, ⟨⟨g12, g13⟩, c14⟩⟩ ?_
                exact wp.fin (v := some (vi (-2))) (by decide) am_m158 rfl ⟨_, rfl, Or.inl rfl, rfl⟩ H
              · rw [if_neg c14] at H
                refine pt158 (s' := (100, [some (vr 297), some (vi a1), some (vi a2), some (vi a3), some (vi ((13 * (F 298 (6 + a1).toNat)) + (F 298 (14 + a1).toNat)))], [vi ((13 * (F 298 (6 + a1).toNat)) + (F 298 (14 + a1).toNat))], (Wd S L (am_up (am_up F 298 (6 + a1).toNat a2) 298 (14 + a1).toNat a3) G h))) (by decide) [1, 0] rfl ⟨trivial, ⟨⟨g12, g13⟩, c14⟩⟩ ?_
                exact wp.fin (v := some (vi ((13 * (F 298 (6 + a1).toNat)) + (F 298 (14 + a1).toNat)))) (by decide) am_m158 rfl ⟨_, rfl, Or.inl rfl, rfl⟩ H
set_option maxRecDepth 100000 in
set_option maxHeartbeats 4000000 in
theorem T159_0 {S L : Nat} {F G : Nat → Nat → Int} {h : Nat → Nat → Option Nat} (hh : RfH h) {a1 : Int} {a2 : Int} {a3 : Int}  {Q : Option V2 → W2 → Prop}
    (H : (R32 a1 ∧
 (if a1 < 0 then
  Q (some (vi (-1))) (Wd S L F G h)
 else
  (if 11 < a1 then
   Q (some (vi (-1))) (Wd S L F G h)
  else
   (R32 a2 ∧
   (if a2 < 0 then
    Q (some (vi (-1))) (Wd S L F G h)
   else
    (if 7 < a2 then
     Q (some (vi (-1))) (Wd S L F G h)
    else
     (R32 a3 ∧
     (if a3 < 0 then
      Q (some (vi (-1))) (Wd S L F G h)
     else
      (if 5 < a3 then
       Q (some (vi (-1))) (Wd S L F G h)
      else
       ((0 ≤ (22 + a1) ∧ (22 + a1) < 134) ∧
       (0 ≤ (34 + a1) ∧ (34 + a1) < 134) ∧
       R32 ((6 * (F 298 (22 + a1).toNat)) + (F 298 (34 + a1).toNat)) ∧
       R32 ((6 * a2) + a3) ∧
       (if ((6 * (F 298 (22 + a1).toNat)) + (F 298 (34 + a1).toNat)) = ((6 * a2) + a3) then
        Q (some (vi (-2))) (Wd S L (am_up (am_up F 298 (22 + a1).toNat a2) 298 (34 + a1).toNat a3) G h)
       else
        Q (some (vi ((6 * (F 298 (22 + a1).toNat)) + (F 298 (34 + a1).toNat)))) (Wd S L (am_up (am_up F 298 (22 + a1).toNat a2) 298 (34 + a1).toNat a3) G h))))))))))))) : C159_0 a1 a2 a3 (Wd S L F G h) Q := by
  obtain ⟨g1, H⟩ := H
  refine pt159 (s' := (6, [some (vr 297), some (vi a1), some (vi a2), some (vi a3), none], [vj 11, vj 0, vj a1], (Wd S L F G h))) (by decide) [0, 0, 0, 0] rfl ⟨trivial, g1⟩ ?_
  refine wp.cl am_m159 rfl am_m112 6 [vj a1, vj 0, vj 11] [] rfl (Nat.le_of_ble_eq_true rfl) (Nat.le_of_ble_eq_true rfl) rfl (Nat.le_of_ble_eq_true rfl) rfl (Nat.le_of_ble_eq_true rfl) (Nat.le_of_ble_eq_true rfl) trivial ?_
  refine pt112 (s' := (3, [some (vj a1), none, some (vj 0), none, some (vj 11), none], [vi (y_cmp a1 0)], (Wd S L F G h))) (by decide) [0, 0, 0] rfl ⟨trivial, ⟨(r64 g1), (by decide : R64 0)⟩⟩ ?_
  by_cases c2 : a1 < 0
  · rw [if_pos c2] at H
    refine pt112 (s' := (18, [some (vj a1), none, some (vj 0), none, some (vj 11), none], [vi 0], (Wd S L F G h))) (by decide) [1, 0] rfl ⟨trivial, ⟨y_cmp_r32, (y_cmp_lt.mpr c2)⟩⟩ ?_
    refine wp.fin (v := some (vi 0)) (by decide) am_m112 rfl ⟨_, rfl, Or.inr ⟨rfl, Or.inl rfl⟩, rfl⟩ ?_
    show wp 7 159 (9, [some (vr 297), some (vi a1), some (vi a2), some (vi a3), none], [vi 0], (Wd S L F G h)) _
    refine pt159 (s' := (37, [some (vr 297), some (vi a1), some (vi a2), some (vi a3), none], [vi (-1)], (Wd S L F G h))) (by decide) [1, 0] rfl ⟨trivial, ⟨(by decide : R32 0), (by decide : (0 : Int) = (0 : Int))⟩⟩ ?_
    exact wp.fin (v := some (vi (-1))) (by decide) am_m159 rfl ⟨_, rfl, Or.inl rfl, rfl⟩ H
  · rw [if_neg c2] at H
    refine pt112 (s' := (10, [some (vj a1), none, some (vj 0), none, some (vj 11), none], [vi (y_cmp a1 11)], (Wd S L F G h))) (by decide) [0, 0, 0, 0] rfl ⟨⟨trivial, ⟨y_cmp_r32, (fun e => c2 (y_cmp_lt.mp e))⟩⟩, ⟨(r64 g1), (by decide : R64 11)⟩⟩ ?_
    by_cases c3 : 11 < a1
    · rw [if_pos c3] at H
      refine pt112 (s' := (18, [some (vj a1), none, some (vj 0), none, some (vj 11), none], [vi 0], (Wd S L F G h))) (by decide) [1, 0] rfl ⟨trivial, ⟨y_cmp_r32, (y_cmp_gt.mpr c3)⟩⟩ ?_
      refine wp.fin (v := some (vi 0)) (by decide) am_m112 rfl ⟨_, rfl, Or.inr ⟨rfl, Or.inl rfl⟩, rfl⟩ ?_
      show wp 7 159 (9, [some (vr 297), some (vi a1), some (vi a2), some (vi a3), none], [vi 0], (Wd S L F G h)) _
      refine pt159 (s' := (37, [some (vr 297), some (vi a1), some (vi a2), some (vi a3), none], [vi (-1)], (Wd S L F G h))) (by decide) [1, 0] rfl ⟨trivial, ⟨(by decide : R32 0), (by decide : (0 : Int) = (0 : Int))⟩⟩ ?_
      exact wp.fin (v := some (vi (-1))) (by decide) am_m159 rfl ⟨_, rfl, Or.inl rfl, rfl⟩ H
    · rw [if_neg c3] at H
      refine pt112 (s' := (18, [some (vj a1), none, some (vj 0), none, some (vj 11), none], [vi 1], (Wd S L F G h))) (by decide) [0, 0, 0] rfl ⟨trivial, ⟨y_cmp_r32, (fun e => c3 (y_cmp_gt.mp e))⟩⟩ ?_
      refine wp.fin (v := some (vi 1)) (by decide) am_m112 rfl ⟨_, rfl, Or.inr ⟨rfl, Or.inr rfl⟩, rfl⟩ ?_
      show wp 7 159 (9, [some (vr 297), some (vi a1), some (vi a2), some (vi a3), none], [vi 1], (Wd S L F G h)) _
      obtain ⟨g4, H⟩ := H
      refine pt159 (s' := (18, [some (vr 297), some (vi a1), some (vi a2), some (vi a3), none], [vj 7, vj 0, vj a2], (Wd S L F G h))) (by decide) [0, 0, 0, 0, 0] rfl ⟨⟨trivial, ⟨(by decide : R32 1), (by decide : ¬ (1 : Int) = (0 : Int))⟩⟩, g4⟩ ?_
      refine wp.cl am_m159 rfl am_m112 6 [vj a2, vj 0, vj 7] [] rfl (Nat.le_of_ble_eq_true rfl) (Nat.le_of_ble_eq_true rfl) rfl (Nat.le_of_ble_eq_true rfl) rfl (Nat.le_of_ble_eq_true rfl) (Nat.le_of_ble_eq_true rfl) trivial ?_
      refine pt112 (s' := (3, [some (vj a2), none, some (vj 0), none, some (vj 7), none], [vi (y_cmp a2 0)], (Wd S L F G h))) (by decide) [0, 0, 0] rfl ⟨trivial, ⟨(r64 g4), (by decide : R64 0)⟩⟩ ?_
      by_cases c5 : a2 < 0
      · rw [if_pos c5] at H
        refine pt112 (s' := (18, [some (vj a2), none, some (vj 0), none, some (vj 7), none], [vi 0], (Wd S L F G h))) (by decide) [1, 0] rfl ⟨trivial, ⟨y_cmp_r32, (y_cmp_lt.mpr c5)⟩⟩ ?_
        refine wp.fin (v := some (vi 0)) (by decide) am_m112 rfl ⟨_, rfl, Or.inr ⟨rfl, Or.inl rfl⟩, rfl⟩ ?_
        show wp 7 159 (21, [some (vr 297), some (vi a1), some (vi a2), some (vi a3), none], [vi 0], (Wd S L F G h)) _
        refine pt159 (s' := (37, [some (vr 297), some (vi a1), some (vi a2), some (vi a3), none], [vi (-1)], (Wd S L F G h))) (by decide) [1, 0] rfl ⟨trivial, ⟨(by decide : R32 0), (by decide : (0 : Int) = (0 : Int))⟩⟩ ?_
        exact wp.fin (v := some (vi (-1))) (by decide) am_m159 rfl ⟨_, rfl, Or.inl rfl, rfl⟩ H
      · rw [if_neg c5] at H
        refine pt112 (s' := (10, [some (vj a2), none, some (vj 0), none, some (vj 7), none], [vi (y_cmp a2 7)], (Wd S L F G h))) (by decide) [0, 0, 0, 0] rfl ⟨⟨trivial, ⟨y_cmp_r32, (fun e => c5 (y_cmp_lt.mp e))⟩⟩, ⟨(r64 g4), (by decide : R64 7)⟩⟩ ?_
        by_cases c6 : 7 < a2
        · rw [if_pos c6] at H
          refine pt112 (s' := (18, [some (vj a2), none, some (vj 0), none, some (vj 7), none], [vi 0], (Wd S L F G h))) (by decide) [1, 0] rfl ⟨trivial, ⟨y_cmp_r32, (y_cmp_gt.mpr c6)⟩⟩ ?_
          refine wp.fin (v := some (vi 0)) (by decide) am_m112 rfl ⟨_, rfl, Or.inr ⟨rfl, Or.inl rfl⟩, rfl⟩ ?_
          show wp 7 159 (21, [some (vr 297), some (vi a1), some (vi a2), some (vi a3), none], [vi 0], (Wd S L F G h)) _
          refine pt159 (s' := (37, [some (vr 297), some (vi a1), some (vi a2), some (vi a3), none], [vi (-1)], (Wd S L F G h))) (by decide) [1, 0] rfl ⟨trivial, ⟨(by decide : R32 0), (by decide : (0 : Int) = (0 : Int))⟩⟩ ?_
          exact wp.fin (v := some (vi (-1))) (by decide) am_m159 rfl ⟨_, rfl, Or.inl rfl, rfl⟩ H
        · rw [if_neg c6] at H
          refine pt112 (s' := (18, [some (vj a2), none, some (vj 0), none, some (vj 7), none], [vi 1], (Wd S L F G h))) (by decide) [0, 0, 0] rfl ⟨trivial, ⟨y_cmp_r32, (fun e => c6 (y_cmp_gt.mp e))⟩⟩ ?_
          refine wp.fin (v := some (vi 1)) (by decide) am_m112 rfl ⟨_, rfl, Or.inr ⟨rfl, Or.inr rfl⟩, rfl⟩ ?_
          show wp 7 159 (21, [some (vr 297), some (vi a1), some (vi a2), some (vi a3), none], [vi 1], (Wd S L F G h)) _
          obtain ⟨g7, H⟩ := H
          refine pt159 (s' := (30, [some (vr 297), some (vi a1), some (vi a2), some (vi a3), none], [vj 5, vj 0, vj a3], (Wd S L F G h))) (by decide) [0, 0, 0, 0, 0] rfl ⟨⟨trivial, ⟨(by decide : R32 1), (by decide : ¬ (1 : Int) = (0 : Int))⟩⟩, g7⟩ ?_
          refine wp.cl am_m159 rfl am_m112 6 [vj a3, vj 0, vj 5] [] rfl (Nat.le_of_ble_eq_true rfl) (Nat.le_of_ble_eq_true rfl) rfl (Nat.le_of_ble_eq_true rfl) rfl (Nat.le_of_ble_eq_true rfl) (Nat.le_of_ble_eq_true rfl) trivial ?_
          refine pt112 (s' := (3, [some (vj a3), none, some (vj 0), none, some (vj 5), none], [vi (y_cmp a3 0)], (Wd S L F G h))) (by decide) [0, 0, 0] rfl ⟨trivial, ⟨(r64 g7), (by decide : R64 0)⟩⟩ ?_
          by_cases c8 : a3 < 0
          · rw [if_pos c8] at H
            refine pt112 (s' := (18, [some (vj a3), none, some (vj 0), none, some (vj 5), none], [vi 0], (Wd S L F G h))) (by decide) [1, 0] rfl ⟨trivial, ⟨y_cmp_r32, (y_cmp_lt.mpr c8)⟩⟩ ?_
            refine wp.fin (v := some (vi 0)) (by decide) am_m112 rfl ⟨_, rfl, Or.inr ⟨rfl, Or.inl rfl⟩, rfl⟩ ?_
            show wp 7 159 (33, [some (vr 297), some (vi a1), some (vi a2), some (vi a3), none], [vi 0], (Wd S L F G h)) _
            refine pt159 (s' := (37, [some (vr 297), some (vi a1), some (vi a2), some (vi a3), none], [vi (-1)], (Wd S L F G h))) (by decide) [0, 0] rfl ⟨trivial, ⟨(by decide : R32 0), (by decide : (0 : Int) = (0 : Int))⟩⟩ ?_
            exact wp.fin (v := some (vi (-1))) (by decide) am_m159 rfl ⟨_, rfl, Or.inl rfl, rfl⟩ H
          · rw [if_neg c8] at H
            refine pt112 (s' := (10, [some (vj a3), none, some (vj 0), none, some (vj 5), none], [vi (y_cmp a3 5)], (Wd S L F G h))) (by decide) [0, 0, 0, 0] rfl ⟨⟨trivial, ⟨y_cmp_r32, (fun e => c8 (y_cmp_lt.mp e))⟩⟩, ⟨(r64 g7), (by decide : R64 5)⟩⟩ ?_
            by_cases c9 : 5 < a3
            · rw [if_pos c9] at H
              refine pt112 (s' := (18, [some (vj a3), none, some (vj 0), none, some (vj 5), none], [vi 0], (Wd S L F G h))) (by decide) [1, 0] rfl ⟨trivial, ⟨y_cmp_r32, (y_cmp_gt.mpr c9)⟩⟩ ?_
              refine wp.fin (v := some (vi 0)) (by decide) am_m112 rfl ⟨_, rfl, Or.inr ⟨rfl, Or.inl rfl⟩, rfl⟩ ?_
              show wp 7 159 (33, [some (vr 297), some (vi a1), some (vi a2), some (vi a3), none], [vi 0], (Wd S L F G h)) _
              refine pt159 (s' := (37, [some (vr 297), some (vi a1), some (vi a2), some (vi a3), none], [vi (-1)], (Wd S L F G h))) (by decide) [0, 0] rfl ⟨trivial, ⟨(by decide : R32 0), (by decide : (0 : Int) = (0 : Int))⟩⟩ ?_
              exact wp.fin (v := some (vi (-1))) (by decide) am_m159 rfl ⟨_, rfl, Or.inl rfl, rfl⟩ H
            · rw [if_neg c9] at H
              refine pt112 (s' := (18, [some (vj a3), none, some (vj 0), none, some (vj 5), none], [vi 1], (Wd S L F G h))) (by decide) [0, 0, 0] rfl ⟨trivial, ⟨y_cmp_r32, (fun e => c9 (y_cmp_gt.mp e))⟩⟩ ?_
              refine wp.fin (v := some (vi 1)) (by decide) am_m112 rfl ⟨_, rfl, Or.inr ⟨rfl, Or.inr rfl⟩, rfl⟩ ?_
              show wp 7 159 (33, [some (vr 297), some (vi a1), some (vi a2), some (vi a3), none], [vi 1], (Wd S L F G h)) _
              obtain ⟨g10, H⟩ := H
              obtain ⟨g11, H⟩ := H
              obtain ⟨g12, H⟩ := H
              obtain ⟨g13, H⟩ := H
              refine pt159 (s' := (90, [some (vr 297), some (vi a1), some (vi a2), some (vi a3), some (vi ((6 * (F 298 (22 + a1).toNat)) + (F 298 (34 + a1).toNat)))], [vi ((6 * a2) + a3), vi ((6 * (F 298 (22 + a1).toNat)) + (F 298 (34 + a1).toNat))], (Wd S L (am_up (am_up F 298 (22 + a1).toNat a2) 298 (34 + a1).toNat a3) G h))) (by decide) [1, 0, 0, 298, 0, 0, 0, 0, 0, 0, 298, 0, 0, 0, 0, 0, 0, 0, 298, 0, 0, 0, 0, 0, 0, 298, 0, 0, 0, 0, 0, 0, 0, 0, 0, 0, 0] rfl ⟨⟨⟨⟨⟨⟨⟨⟨⟨trivial, ⟨(by decide : R32 1), (by decide : ¬ (1 : Int) = (0 : Int))⟩⟩, ⟨Nat.le_of_ble_eq_true rfl, rfl, hh _ _ _ rfl⟩⟩, (ix ⟨Nat.le_of_ble_eq_true rfl, rfl⟩ g10)⟩, ⟨Nat.le_of_ble_eq_true rfl, rfl, hh _ _ _ rfl⟩⟩, (ix ⟨Nat.le_of_ble_eq_true rfl, rfl⟩ g11)⟩, ⟨Nat.le_of_ble_eq_true rfl, rfl, hh _ _ _ rfl⟩⟩, (ix ⟨Nat.le_of_ble_eq_true rfl, rfl⟩ g10)⟩, ⟨Nat.le_of_ble_eq_true rfl, rfl, hh _ _ _ rfl⟩⟩, (ix ⟨Nat.le_of_ble_eq_true rfl, rfl⟩ g11)⟩ ?_
              by_cases c14 : ((6 * (F 298 (22 + a1).toNat)) + (F 298 (34 + a1).toNat)) = ((6 * a2) + a3)
              · rw [if_pos c14] at H
                refine pt159 (s' := (100, [some (vr 297), some (vi a1), some (vi a2), some (vi a3), some (vi ((6 * (F 298 (22 + a1).toNat)) + (F 298 (34 + a1).toNat)))], [vi (-2)], (Wd S L (am_up (am_up F 298 (22 + a1).toNat a2) 298 (34 + a1).toNat a3) G h))) (by decide) [0, 0, 0] rfl ⟨trivial, ⟨⟨g12, g13⟩, c14⟩⟩ ?_
                exact wp.fin (v := some (vi (-2))) (by decide) am_m159 rfl ⟨_, rfl, Or.inl rfl, rfl⟩ H
              · rw [if_neg c14] at H
                refine pt159 (s' := (100, [some (vr 297), some (vi a1), some (vi a2), some (vi a3), some (vi ((6 * (F 298 (22 + a1).toNat)) + (F 298 (34 + a1).toNat)))], [vi ((6 * (F 298 (22 + a1).toNat)) + (F 298 (34 + a1).toNat))], (Wd S L (am_up (am_up F 298 (22 + a1).toNat a2) 298 (34 + a1).toNat a3) G h))) (by decide) [1, 0] rfl ⟨trivial, ⟨⟨g12, g13⟩, c14⟩⟩ ?_
                exact wp.fin (v := some (vi ((6 * (F 298 (22 + a1).toNat)) + (F 298 (34 + a1).toNat)))) (by decide) am_m159 rfl ⟨_, rfl, Or.inl rfl, rfl⟩ H
set_option maxRecDepth 100000 in
set_option maxHeartbeats 4000000 in
theorem T160_0 {S L : Nat} {F G : Nat → Nat → Int} {h : Nat → Nat → Option Nat} (hh : RfH h) {a1 : Int} {a2 : Int}  {Q : Option V2 → W2 → Prop}
    (H : (R32 a1 ∧
 (if a1 < 0 then
  Q (some (vi (-1))) (Wd S L F G h)
 else
  (if 11 < a1 then
   Q (some (vi (-1))) (Wd S L F G h)
  else
   (R32 a2 ∧
   (if a2 < 1 then
    Q (some (vi (-1))) (Wd S L F G h)
   else
    (if 12 < a2 then
     Q (some (vi (-1))) (Wd S L F G h)
    else
     (R32 (F 298 0) ∧
     (if (F 298 0) = 12 then
      Q (some (vi (-3))) (Wd S L F G h)
     else
      C118_0 (F 298 0) (Wd S L F G h) (fun v w1 => ∃ (v9 : Int), v = some (vi v9) ∧ w1 = (Wd S L F G h) ∧
       C119_0 (v9 + a2) (F 298 2) (F 298 3) (Wd S L F G h) (fun v w1 => ∃ (v10 : Int), v = some (vi v10) ∧ w1 = (Wd S L F G h) ∧
        (R32 v10 ∧
        (if v10 ≤ 100 then
         ((0 ≤ (46 + (F 298 0)) ∧ (46 + (F 298 0)) < 134) ∧
         (0 ≤ (58 + (F 298 0)) ∧ (58 + (F 298 0)) < 134) ∧
         Q (some (vi (F 298 0))) (Wd S L (am_up (am_up (am_up F 298 (46 + (F 298 0)).toNat a1) 298 (58 + (F 298 0)).toNat a2) 298 0 (((am_up (am_up F 298 (46 + (F 298 0)).toNat a1) 298 (58 + (F 298 0)).toNat a2) 298 0) + 1)) G h))
        else
         Q (some (vi (-3))) (Wd S L F G h)))))))))))))) : C160_0 a1 a2 (Wd S L F G h) Q := by
  obtain ⟨g1, H⟩ := H
  refine pt160 (s' := (6, [some (vr 297), some (vi a1), some (vi a2), none], [vj 11, vj 0, vj a1], (Wd S L F G h))) (by decide) [0, 0, 0, 0] rfl ⟨trivial, g1⟩ ?_
  refine wp.cl am_m160 rfl am_m112 6 [vj a1, vj 0, vj 11] [] rfl (Nat.le_of_ble_eq_true rfl) (Nat.le_of_ble_eq_true rfl) rfl (Nat.le_of_ble_eq_true rfl) rfl (Nat.le_of_ble_eq_true rfl) (Nat.le_of_ble_eq_true rfl) trivial ?_
  refine pt112 (s' := (3, [some (vj a1), none, some (vj 0), none, some (vj 11), none], [vi (y_cmp a1 0)], (Wd S L F G h))) (by decide) [0, 0, 0] rfl ⟨trivial, ⟨(r64 g1), (by decide : R64 0)⟩⟩ ?_
  by_cases c2 : a1 < 0
  · rw [if_pos c2] at H
    refine pt112 (s' := (18, [some (vj a1), none, some (vj 0), none, some (vj 11), none], [vi 0], (Wd S L F G h))) (by decide) [1, 0] rfl ⟨trivial, ⟨y_cmp_r32, (y_cmp_lt.mpr c2)⟩⟩ ?_
    refine wp.fin (v := some (vi 0)) (by decide) am_m112 rfl ⟨_, rfl, Or.inr ⟨rfl, Or.inl rfl⟩, rfl⟩ ?_
    show wp 7 160 (9, [some (vr 297), some (vi a1), some (vi a2), none], [vi 0], (Wd S L F G h)) _
    refine pt160 (s' := (25, [some (vr 297), some (vi a1), some (vi a2), none], [vi (-1)], (Wd S L F G h))) (by decide) [1, 0] rfl ⟨trivial, ⟨(by decide : R32 0), (by decide : (0 : Int) = (0 : Int))⟩⟩ ?_
    exact wp.fin (v := some (vi (-1))) (by decide) am_m160 rfl ⟨_, rfl, Or.inl rfl, rfl⟩ H
  · rw [if_neg c2] at H
    refine pt112 (s' := (10, [some (vj a1), none, some (vj 0), none, some (vj 11), none], [vi (y_cmp a1 11)], (Wd S L F G h))) (by decide) [0, 0, 0, 0] rfl ⟨⟨trivial, ⟨y_cmp_r32, (fun e => c2 (y_cmp_lt.mp e))⟩⟩, ⟨(r64 g1), (by decide : R64 11)⟩⟩ ?_
    by_cases c3 : 11 < a1
    · rw [if_pos c3] at H
      refine pt112 (s' := (18, [some (vj a1), none, some (vj 0), none, some (vj 11), none], [vi 0], (Wd S L F G h))) (by decide) [1, 0] rfl ⟨trivial, ⟨y_cmp_r32, (y_cmp_gt.mpr c3)⟩⟩ ?_
      refine wp.fin (v := some (vi 0)) (by decide) am_m112 rfl ⟨_, rfl, Or.inr ⟨rfl, Or.inl rfl⟩, rfl⟩ ?_
      show wp 7 160 (9, [some (vr 297), some (vi a1), some (vi a2), none], [vi 0], (Wd S L F G h)) _
      refine pt160 (s' := (25, [some (vr 297), some (vi a1), some (vi a2), none], [vi (-1)], (Wd S L F G h))) (by decide) [1, 0] rfl ⟨trivial, ⟨(by decide : R32 0), (by decide : (0 : Int) = (0 : Int))⟩⟩ ?_
      exact wp.fin (v := some (vi (-1))) (by decide) am_m160 rfl ⟨_, rfl, Or.inl rfl, rfl⟩ H
    · rw [if_neg c3] at H
      refine pt112 (s' := (18, [some (vj a1), none, some (vj 0), none, some (vj 11), none], [vi 1], (Wd S L F G h))) (by decide) [0, 0, 0] rfl ⟨trivial, ⟨y_cmp_r32, (fun e => c3 (y_cmp_gt.mp e))⟩⟩ ?_
      refine wp.fin (v := some (vi 1)) (by decide) am_m112 rfl ⟨_, rfl, Or.inr ⟨rfl, Or.inr rfl⟩, rfl⟩ ?_
      show wp 7 160 (9, [some (vr 297), some (vi a1), some (vi a2), none], [vi 1], (Wd S L F G h)) _
      obtain ⟨g4, H⟩ := H
      refine pt160 (s' := (18, [some (vr 297), some (vi a1), some (vi a2), none], [vj 12, vj 1, vj a2], (Wd S L F G h))) (by decide) [0, 0, 0, 0, 0] rfl ⟨⟨trivial, ⟨(by decide : R32 1), (by decide : ¬ (1 : Int) = (0 : Int))⟩⟩, g4⟩ ?_
      refine wp.cl am_m160 rfl am_m112 6 [vj a2, vj 1, vj 12] [] rfl (Nat.le_of_ble_eq_true rfl) (Nat.le_of_ble_eq_true rfl) rfl (Nat.le_of_ble_eq_true rfl) rfl (Nat.le_of_ble_eq_true rfl) (Nat.le_of_ble_eq_true rfl) trivial ?_
      refine pt112 (s' := (3, [some (vj a2), none, some (vj 1), none, some (vj 12), none], [vi (y_cmp a2 1)], (Wd S L F G h))) (by decide) [0, 0, 0] rfl ⟨trivial, ⟨(r64 g4), (by decide : R64 1)⟩⟩ ?_
      by_cases c5 : a2 < 1
      · rw [if_pos c5] at H
        refine pt112 (s' := (18, [some (vj a2), none, some (vj 1), none, some (vj 12), none], [vi 0], (Wd S L F G h))) (by decide) [1, 0] rfl ⟨trivial, ⟨y_cmp_r32, (y_cmp_lt.mpr c5)⟩⟩ ?_
        refine wp.fin (v := some (vi 0)) (by decide) am_m112 rfl ⟨_, rfl, Or.inr ⟨rfl, Or.inl rfl⟩, rfl⟩ ?_
        show wp 7 160 (21, [some (vr 297), some (vi a1), some (vi a2), none], [vi 0], (Wd S L F G h)) _
        refine pt160 (s' := (25, [some (vr 297), some (vi a1), some (vi a2), none], [vi (-1)], (Wd S L F G h))) (by decide) [0, 0] rfl ⟨trivial, ⟨(by decide : R32 0), (by decide : (0 : Int) = (0 : Int))⟩⟩ ?_
        exact wp.fin (v := some (vi (-1))) (by decide) am_m160 rfl ⟨_, rfl, Or.inl rfl, rfl⟩ H
      · rw [if_neg c5] at H
        refine pt112 (s' := (10, [some (vj a2), none, some (vj 1), none, some (vj 12), none], [vi (y_cmp a2 12)], (Wd S L F G h))) (by decide) [0, 0, 0, 0] rfl ⟨⟨trivial, ⟨y_cmp_r32, (fun e => c5 (y_cmp_lt.mp e))⟩⟩, ⟨(r64 g4), (by decide : R64 12)⟩⟩ ?_
        by_cases c6 : 12 < a2
        · rw [if_pos c6] at H
          refine pt112 (s' := (18, [some (vj a2), none, some (vj 1), none, some (vj 12), none], [vi 0], (Wd S L F G h))) (by decide) [1, 0] rfl ⟨trivial, ⟨y_cmp_r32, (y_cmp_gt.mpr c6)⟩⟩ ?_
          refine wp.fin (v := some (vi 0)) (by decide) am_m112 rfl ⟨_, rfl, Or.inr ⟨rfl, Or.inl rfl⟩, rfl⟩ ?_
          show wp 7 160 (21, [some (vr 297), some (vi a1), some (vi a2), none], [vi 0], (Wd S L F G h)) _
          refine pt160 (s' := (25, [some (vr 297), some (vi a1), some (vi a2), none], [vi (-1)], (Wd S L F G h))) (by decide) [0, 0] rfl ⟨trivial, ⟨(by decide : R32 0), (by decide : (0 : Int) = (0 : Int))⟩⟩ ?_
          exact wp.fin (v := some (vi (-1))) (by decide) am_m160 rfl ⟨_, rfl, Or.inl rfl, rfl⟩ H
        · rw [if_neg c6] at H
          refine pt112 (s' := (18, [some (vj a2), none, some (vj 1), none, some (vj 12), none], [vi 1], (Wd S L F G h))) (by decide) [0, 0, 0] rfl ⟨trivial, ⟨y_cmp_r32, (fun e => c6 (y_cmp_gt.mp e))⟩⟩ ?_
          refine wp.fin (v := some (vi 1)) (by decide) am_m112 rfl ⟨_, rfl, Or.inr ⟨rfl, Or.inr rfl⟩, rfl⟩ ?_
          show wp 7 160 (21, [some (vr 297), some (vi a1), some (vi a2), none], [vi 1], (Wd S L F G h)) _
          obtain ⟨g7, H⟩ := H
          refine pt160 (s' := (36, [some (vr 297), some (vi a1), some (vi a2), some (vi (F 298 0))], [vi 12, vi (F 298 0)], (Wd S L F G h))) (by decide) [1, 0, 298, 0, 0, 0, 0, 0] rfl ⟨⟨⟨trivial, ⟨(by decide : R32 1), (by decide : ¬ (1 : Int) = (0 : Int))⟩⟩, ⟨Nat.le_of_ble_eq_true rfl, rfl, hh _ _ _ rfl⟩⟩, (ix ⟨Nat.le_of_ble_eq_true rfl, rfl⟩ (by decide : (0 : Int) ≤ 0 ∧ (0 : Int) < 134))⟩ ?_
          by_cases c8 : (F 298 0) = 12
          · rw [if_pos c8] at H
            refine pt160 (s' := (68, [some (vr 297), some (vi a1), some (vi a2), some (vi (F 298 0))], [vi (-3)], (Wd S L F G h))) (by decide) [1, 0] rfl ⟨trivial, ⟨⟨g7, (by decide : R32 12)⟩, c8⟩⟩ ?_
            exact wp.fin (v := some (vi (-3))) (by decide) am_m160 rfl ⟨_, rfl, Or.inl rfl, rfl⟩ H
          · rw [if_neg c8] at H
            refine pt160 (s' := (41, [some (vr 297), some (vi a1), some (vi a2), some (vi (F 298 0))], [vi (F 298 0), vr 297], (Wd S L F G h))) (by decide) [0, 0, 0] rfl ⟨trivial, ⟨⟨g7, (by decide : R32 12)⟩, c8⟩⟩ ?_
            refine wp.cl am_m160 rfl am_m118 6 [vr 297, vi (F 298 0)] [] rfl (Nat.le_of_ble_eq_true rfl) (Nat.le_of_ble_eq_true rfl) rfl (Nat.le_of_ble_eq_true rfl) rfl (Nat.le_of_ble_eq_true rfl) (Nat.le_of_ble_eq_true rfl) ⟨_, _, rfl, Nat.le_of_ble_eq_true rfl, rfl⟩ ?_
            refine wp.mono H ?_
            rintro v w1 ⟨v9, rfl, rfl, H⟩
            show wp 7 160 (44, [some (vr 297), some (vi a1), some (vi a2), some (vi (F 298 0))], [vi v9], (Wd S L F G h)) _
            refine pt160 (s' := (58, [some (vr 297), some (vi a1), some (vi a2), some (vi (F 298 0))], [vi (F 298 3), vi (F 298 2), vi (v9 + a2)], (Wd S L F G h))) (by decide) [0, 0, 0, 298, 0, 0, 0, 298, 0, 0] rfl ⟨⟨⟨⟨trivial, ⟨Nat.le_of_ble_eq_true rfl, rfl, hh _ _ _ rfl⟩⟩, (ix ⟨Nat.le_of_ble_eq_true rfl, rfl⟩ (by decide : (0 : Int) ≤ 2 ∧ (2 : Int) < 134))⟩, ⟨Nat.le_of_ble_eq_true rfl, rfl, hh _ _ _ rfl⟩⟩, (ix ⟨Nat.le_of_ble_eq_true rfl, rfl⟩ (by decide : (0 : Int) ≤ 3 ∧ (3 : Int) < 134))⟩ ?_
            refine wp.cl am_m160 rfl am_m119 6 [vi (v9 + a2), vi (F 298 2), vi (F 298 3)] [] rfl (Nat.le_of_ble_eq_true rfl) (Nat.le_of_ble_eq_true rfl) rfl (Nat.le_of_ble_eq_true rfl) rfl (Nat.le_of_ble_eq_true rfl) (Nat.le_of_ble_eq_true rfl) trivial ?_
            refine wp.mono H ?_
            rintro v w1 ⟨v10, rfl, rfl, H⟩
            show wp 7 160 (61, [some (vr 297), some (vi a1), some (vi a2), some (vi (F 298 0))], [vi v10], (Wd S L F G h)) _
            obtain ⟨g11, H⟩ := H
            refine pt160 (s' := (63, [some (vr 297), some (vi a1), some (vi a2), some (vi (F 298 0))], [vi 100, vi v10], (Wd S L F G h))) (by decide) [0] rfl trivial ?_
            by_cases c12 : v10 ≤ 100
            · rw [if_pos c12] at H
              obtain ⟨g13, H⟩ := H
              obtain ⟨g14, H⟩ := H
              refine pt160 (s' := (100, [some (vr 297), some (vi a1), some (vi a2), some (vi (F 298 0))], [vi (F 298 0)], (Wd S L (am_up (am_up (am_up F 298 (46 + (F 298 0)).toNat a1) 298 (58 + (F 298 0)).toNat a2) 298 0 (((am_up (am_up F 298 (46 + (F 298 0)).toNat a1) 298 (58 + (F 298 0)).toNat a2) 298 0) + 1)) G h))) (by decide) [1, 0, 298, 0, 0, 0, 0, 0, 0, 298, 0, 0, 0, 0, 0, 0, 298, 0, 0, 0, 0, 0, 0, 0] rfl ⟨⟨⟨⟨⟨⟨⟨⟨trivial, ⟨⟨g11, (by decide : R32 100)⟩, c12⟩⟩, ⟨Nat.le_of_ble_eq_true rfl, rfl, hh _ _ _ rfl⟩⟩, (ix ⟨Nat.le_of_ble_eq_true rfl, rfl⟩ g13)⟩, ⟨Nat.le_of_ble_eq_true rfl, rfl, hh _ _ _ rfl⟩⟩, (ix ⟨Nat.le_of_ble_eq_true rfl, rfl⟩ g14)⟩, ⟨Nat.le_of_ble_eq_true rfl, rfl, hh _ _ _ rfl⟩⟩, (ix ⟨Nat.le_of_ble_eq_true rfl, rfl⟩ (by decide : (0 : Int) ≤ 0 ∧ (0 : Int) < 134))⟩, (ix ⟨Nat.le_of_ble_eq_true rfl, rfl⟩ (by decide : (0 : Int) ≤ 0 ∧ (0 : Int) < 134))⟩ ?_
              exact wp.fin (v := some (vi (F 298 0))) (by decide) am_m160 rfl ⟨_, rfl, Or.inl rfl, rfl⟩ H
            · rw [if_neg c12] at H
              refine pt160 (s' := (68, [some (vr 297), some (vi a1), some (vi a2), some (vi (F 298 0))], [vi (-3)], (Wd S L F G h))) (by decide) [0, 0] rfl ⟨trivial, ⟨⟨g11, (by decide : R32 100)⟩, c12⟩⟩ ?_
              exact wp.fin (v := some (vi (-3))) (by decide) am_m160 rfl ⟨_, rfl, Or.inl rfl, rfl⟩ H
set_option maxRecDepth 100000 in
set_option maxHeartbeats 4000000 in
theorem T161_0 {S L : Nat} {F G : Nat → Nat → Int} {h : Nat → Nat → Option Nat} (hh : RfH h) {a1 : Int}  {Q : Option V2 → W2 → Prop}
    (H : (R32 a1 ∧
 R32 ((F 298 0) - 1) ∧
 (if a1 < 0 then
  Q (some (vi (-1))) (Wd S L F G h)
 else
  (if ((F 298 0) - 1) < a1 then
   Q (some (vi (-1))) (Wd S L F G h)
  else
   C161_22 a1 (Wd S L (am_up F 298 0 ((F 298 0) - 1)) G h) Q)))) : C161_0 a1 (Wd S L F G h) Q := by
  refine pt161 (s' := (2, [some (vr 297), some (vi a1), none], [vi a1, vr 297], (Wd S L F G h))) (by decide) [0, 0] rfl trivial ?_
  refine wp.cl am_m161 rfl am_m115 7 [vr 297, vi a1] [] rfl (Nat.le_of_ble_eq_true rfl) (Nat.le_of_ble_eq_true rfl) rfl (Nat.le_of_ble_eq_true rfl) rfl (Nat.le_of_ble_eq_true rfl) (Nat.le_of_ble_eq_true rfl) ⟨_, _, rfl, Nat.le_of_ble_eq_true rfl, rfl⟩ ?_
  obtain ⟨g1, H⟩ := H
  obtain ⟨g2, H⟩ := H
  refine pt115 (s' := (12, [some (vr 297), some (vi a1)], [vj ((F 298 0) - 1), vj 0, vj a1], (Wd S L F G h))) (by decide) [0, 0, 0, 0, 298, 0, 0, 0, 0, 0] rfl ⟨⟨⟨⟨trivial, g1⟩, ⟨Nat.le_of_ble_eq_true rfl, rfl, hh _ _ _ rfl⟩⟩, (ix ⟨Nat.le_of_ble_eq_true rfl, rfl⟩ (by decide : (0 : Int) ≤ 0 ∧ (0 : Int) < 134))⟩, g2⟩ ?_
  refine wp.cl am_m115 rfl am_m112 6 [vj a1, vj 0, vj ((F 298 0) - 1)] [] rfl (Nat.le_of_ble_eq_true rfl) (Nat.le_of_ble_eq_true rfl) rfl (Nat.le_of_ble_eq_true rfl) rfl (Nat.le_of_ble_eq_true rfl) (Nat.le_of_ble_eq_true rfl) trivial ?_
  refine pt112 (s' := (3, [some (vj a1), none, some (vj 0), none, some (vj ((F 298 0) - 1)), none], [vi (y_cmp a1 0)], (Wd S L F G h))) (by decide) [0, 0, 0] rfl ⟨trivial, ⟨(r64 g1), (by decide : R64 0)⟩⟩ ?_
  by_cases c3 : a1 < 0
  · rw [if_pos c3] at H
    refine pt112 (s' := (18, [some (vj a1), none, some (vj 0), none, some (vj ((F 298 0) - 1)), none], [vi 0], (Wd S L F G h))) (by decide) [1, 0] rfl ⟨trivial, ⟨y_cmp_r32, (y_cmp_lt.mpr c3)⟩⟩ ?_
    refine wp.fin (v := some (vi 0)) (by decide) am_m112 rfl ⟨_, rfl, Or.inr ⟨rfl, Or.inl rfl⟩, rfl⟩ ?_
    show wp 7 115 (15, [some (vr 297), some (vi a1)], [vi 0], (Wd S L F G h)) _
    refine wp.fin (v := some (vi 0)) (by decide) am_m115 rfl ⟨_, rfl, Or.inr ⟨rfl, Or.inl rfl⟩, rfl⟩ ?_
    show wp 8 161 (5, [some (vr 297), some (vi a1), none], [vi 0], (Wd S L F G h)) _
    refine pt161 (s' := (9, [some (vr 297), some (vi a1), none], [vi (-1)], (Wd S L F G h))) (by decide) [0, 0] rfl ⟨trivial, ⟨(by decide : R32 0), (by decide : (0 : Int) = (0 : Int))⟩⟩ ?_
    exact wp.fin (v := some (vi (-1))) (by decide) am_m161 rfl ⟨_, rfl, Or.inl rfl, rfl⟩ H
  · rw [if_neg c3] at H
    refine pt112 (s' := (10, [some (vj a1), none, some (vj 0), none, some (vj ((F 298 0) - 1)), none], [vi (y_cmp a1 ((F 298 0) - 1))], (Wd S L F G h))) (by decide) [0, 0, 0, 0] rfl ⟨⟨trivial, ⟨y_cmp_r32, (fun e => c3 (y_cmp_lt.mp e))⟩⟩, ⟨(r64 g1), (r64 g2)⟩⟩ ?_
    by_cases c4 : ((F 298 0) - 1) < a1
    · rw [if_pos c4] at H
      refine pt112 (s' := (18, [some (vj a1), none, some (vj 0), none, some (vj ((F 298 0) - 1)), none], [vi 0], (Wd S L F G h))) (by decide) [1, 0] rfl ⟨trivial, ⟨y_cmp_r32, (y_cmp_gt.mpr c4)⟩⟩ ?_
      refine wp.fin (v := some (vi 0)) (by decide) am_m112 rfl ⟨_, rfl, Or.inr ⟨rfl, Or.inl rfl⟩, rfl⟩ ?_
      show wp 7 115 (15, [some (vr 297), some (vi a1)], [vi 0], (Wd S L F G h)) _
      refine wp.fin (v := some (vi 0)) (by decide) am_m115 rfl ⟨_, rfl, Or.inr ⟨rfl, Or.inl rfl⟩, rfl⟩ ?_
      show wp 8 161 (5, [some (vr 297), some (vi a1), none], [vi 0], (Wd S L F G h)) _
      refine pt161 (s' := (9, [some (vr 297), some (vi a1), none], [vi (-1)], (Wd S L F G h))) (by decide) [0, 0] rfl ⟨trivial, ⟨(by decide : R32 0), (by decide : (0 : Int) = (0 : Int))⟩⟩ ?_
      exact wp.fin (v := some (vi (-1))) (by decide) am_m161 rfl ⟨_, rfl, Or.inl rfl, rfl⟩ H
    · rw [if_neg c4] at H
      refine pt112 (s' := (18, [some (vj a1), none, some (vj 0), none, some (vj ((F 298 0) - 1)), none], [vi 1], (Wd S L F G h))) (by decide) [0, 0, 0] rfl ⟨trivial, ⟨y_cmp_r32, (fun e => c4 (y_cmp_gt.mp e))⟩⟩ ?_
      refine wp.fin (v := some (vi 1)) (by decide) am_m112 rfl ⟨_, rfl, Or.inr ⟨rfl, Or.inr rfl⟩, rfl⟩ ?_
      show wp 7 115 (15, [some (vr 297), some (vi a1)], [vi 1], (Wd S L F G h)) _
      refine wp.fin (v := some (vi 1)) (by decide) am_m115 rfl ⟨_, rfl, Or.inr ⟨rfl, Or.inr rfl⟩, rfl⟩ ?_
      show wp 8 161 (5, [some (vr 297), some (vi a1), none], [vi 1], (Wd S L F G h)) _
      refine pt161 (s' := (22, [some (vr 297), some (vi a1), some (vi a1)], [], (Wd S L (am_up F 298 0 ((F 298 0) - 1)) G h))) (by decide) [1, 0, 298, 0, 0, 0, 0, 0, 0, 0, 0] rfl ⟨⟨⟨⟨trivial, ⟨(by decide : R32 1), (by decide : ¬ (1 : Int) = (0 : Int))⟩⟩, ⟨Nat.le_of_ble_eq_true rfl, rfl, hh _ _ _ rfl⟩⟩, (ix ⟨Nat.le_of_ble_eq_true rfl, rfl⟩ (by decide : (0 : Int) ≤ 0 ∧ (0 : Int) < 134))⟩, (ix ⟨Nat.le_of_ble_eq_true rfl, rfl⟩ (by decide : (0 : Int) ≤ 0 ∧ (0 : Int) < 134))⟩ ?_
      exact wp.weak (a := [some (vr 297), none, some (vi a1)]) ⟨rfl, rfl, trivial⟩ H
set_option maxRecDepth 100000 in
set_option maxHeartbeats 4000000 in
theorem T161_22 {S L : Nat} {F G : Nat → Nat → Int} {h : Nat → Nat → Option Nat} (hh : RfH h) {x2 : Int}  {Q : Option V2 → W2 → Prop}
    (H : (R32 x2 ∧
 R32 (F 298 0) ∧
 (if (F 298 0) ≤ x2 then
  Q (some (vi (F 298 0))) (Wd S L F G h)
 else
  ((0 ≤ ((46 + x2) + 1) ∧ ((46 + x2) + 1) < 134) ∧
  (0 ≤ (46 + x2) ∧ (46 + x2) < 134) ∧
  (0 ≤ ((58 + x2) + 1) ∧ ((58 + x2) + 1) < 134) ∧
  (0 ≤ (58 + x2) ∧ (58 + x2) < 134) ∧
  C161_22 (x2 + 1) (Wd S L (am_up (am_up F 298 (46 + x2).toNat (F 298 ((46 + x2) + 1).toNat)) 298 (58 + x2).toNat ((am_up F 298 (46 + x2).toNat (F 298 ((46 + x2) + 1).toNat)) 298 ((58 + x2) + 1).toNat)) G h) Q)))) : C161_22 x2 (Wd S L F G h) Q := by
  obtain ⟨g1, H⟩ := H
  obtain ⟨g2, H⟩ := H
  refine pt161 (s' := (29, [some (vr 297), none, some (vi x2)], [vi (F 298 0), vi x2], (Wd S L F G h))) (by decide) [0, 0, 298, 0, 0] rfl ⟨⟨trivial, ⟨Nat.le_of_ble_eq_true rfl, rfl, hh _ _ _ rfl⟩⟩, (ix ⟨Nat.le_of_ble_eq_true rfl, rfl⟩ (by decide : (0 : Int) ≤ 0 ∧ (0 : Int) < 134))⟩ ?_
  by_cases c3 : (F 298 0) ≤ x2
  · rw [if_pos c3] at H
    refine pt161 (s' := (84, [some (vr 297), none, some (vi x2)], [vi (F 298 0)], (Wd S L F G h))) (by decide) [1, 0, 298, 0, 0] rfl ⟨⟨⟨trivial, ⟨⟨g1, g2⟩, c3⟩⟩, ⟨Nat.le_of_ble_eq_true rfl, rfl, hh _ _ _ rfl⟩⟩, (ix ⟨Nat.le_of_ble_eq_true rfl, rfl⟩ (by decide : (0 : Int) ≤ 0 ∧ (0 : Int) < 134))⟩ ?_
    exact wp.fin (v := some (vi (F 298 0))) (by decide) am_m161 rfl ⟨_, rfl, Or.inl rfl, rfl⟩ H
  · rw [if_neg c3] at H
    obtain ⟨g4, H⟩ := H
    obtain ⟨g5, H⟩ := H
    obtain ⟨g6, H⟩ := H
    obtain ⟨g7, H⟩ := H
    refine pt161 (s' := (22, [some (vr 297), none, some (vi (x2 + 1))], [], (Wd S L (am_up (am_up F 298 (46 + x2).toNat (F 298 ((46 + x2) + 1).toNat)) 298 (58 + x2).toNat ((am_up F 298 (46 + x2).toNat (F 298 ((46 + x2) + 1).toNat)) 298 ((58 + x2) + 1).toNat)) G h))) (by decide) [0, 0, 298, 0, 0, 0, 0, 298, 0, 0, 0, 0, 0, 0, 0, 0, 298, 0, 0, 0, 0, 298, 0, 0, 0, 0, 0, 0, 0, 0, 0] rfl ⟨⟨⟨⟨⟨⟨⟨⟨⟨trivial, ⟨⟨g1, g2⟩, c3⟩⟩, ⟨Nat.le_of_ble_eq_true rfl, rfl, hh _ _ _ rfl⟩⟩, ⟨Nat.le_of_ble_eq_true rfl, rfl, hh _ _ _ rfl⟩⟩, (ix ⟨Nat.le_of_ble_eq_true rfl, rfl⟩ g4)⟩, (ix ⟨Nat.le_of_ble_eq_true rfl, rfl⟩ g5)⟩, ⟨Nat.le_of_ble_eq_true rfl, rfl, hh _ _ _ rfl⟩⟩, ⟨Nat.le_of_ble_eq_true rfl, rfl, hh _ _ _ rfl⟩⟩, (ix ⟨Nat.le_of_ble_eq_true rfl, rfl⟩ g6)⟩, (ix ⟨Nat.le_of_ble_eq_true rfl, rfl⟩ g7)⟩ ?_
    exact wp.weak (a := [some (vr 297), none, some (vi (x2 + 1))]) ⟨rfl, rfl, trivial⟩ H
set_option maxRecDepth 100000 in
set_option maxHeartbeats 4000000 in
theorem T162_0 {S L : Nat} {F G : Nat → Nat → Int} {h : Nat → Nat → Option Nat} (hh : RfH h) {a1 : Int} {a2 : Int}  {Q : Option V2 → W2 → Prop}
    (H : (R32 a1 ∧
 (if a1 < 1 then
  Q (some (vi (-1))) (Wd S L F G h)
 else
  (if 12 < a1 then
   Q (some (vi (-1))) (Wd S L F G h)
  else
   (R32 a2 ∧
   (if a2 < 1 then
    Q (some (vi (-1))) (Wd S L F G h)
   else
    (if 2 < a2 then
     Q (some (vi (-1))) (Wd S L F G h)
    else
     (R32 ((10 * (F 298 2)) + (F 298 3)) ∧
     R32 ((10 * a1) + a2) ∧
     (if ((10 * (F 298 2)) + (F 298 3)) = ((10 * a1) + a2) then
      Q (some (vi (-2))) (Wd S L F G h)
     else
      C118_0 (F 298 0) (Wd S L F G h) (fun v w1 => ∃ (v10 : Int), v = some (vi v10) ∧ w1 = (Wd S L F G h) ∧
       C119_0 v10 a1 a2 (Wd S L F G h) (fun v w1 => ∃ (v11 : Int), v = some (vi v11) ∧ w1 = (Wd S L F G h) ∧
        (R32 v11 ∧
        (if v11 ≤ 100 then
         Q (some (vi ((10 * (F 298 2)) + (F 298 3)))) (Wd S L (am_up (am_up F 298 2 a1) 298 3 a2) G h)
        else
         Q (some (vi (-3))) (Wd S L F G h)))))))))))))) : C162_0 a1 a2 (Wd S L F G h) Q := by
  obtain ⟨g1, H⟩ := H
  refine pt162 (s' := (6, [some (vr 297), some (vi a1), some (vi a2), none], [vj 12, vj 1, vj a1], (Wd S L F G h))) (by decide) [0, 0, 0, 0] rfl ⟨trivial, g1⟩ ?_
  refine wp.cl am_m162 rfl am_m112 6 [vj a1, vj 1, vj 12] [] rfl (Nat.le_of_ble_eq_true rfl) (Nat.le_of_ble_eq_true rfl) rfl (Nat.le_of_ble_eq_true rfl) rfl (Nat.le_of_ble_eq_true rfl) (Nat.le_of_ble_eq_true rfl) trivial ?_
  refine pt112 (s' := (3, [some (vj a1), none, some (vj 1), none, some (vj 12), none], [vi (y_cmp a1 1)], (Wd S L F G h))) (by decide) [0, 0, 0] rfl ⟨trivial, ⟨(r64 g1), (by decide : R64 1)⟩⟩ ?_
  by_cases c2 : a1 < 1
  · rw [if_pos c2] at H
    refine pt112 (s' := (18, [some (vj a1), none, some (vj 1), none, some (vj 12), none], [vi 0], (Wd S L F G h))) (by decide) [1, 0] rfl ⟨trivial, ⟨y_cmp_r32, (y_cmp_lt.mpr c2)⟩⟩ ?_
    refine wp.fin (v := some (vi 0)) (by decide) am_m112 rfl ⟨_, rfl, Or.inr ⟨rfl, Or.inl rfl⟩, rfl⟩ ?_
    show wp 7 162 (9, [some (vr 297), some (vi a1), some (vi a2), none], [vi 0], (Wd S L F G h)) _
    refine pt162 (s' := (25, [some (vr 297), some (vi a1), some (vi a2), none], [vi (-1)], (Wd S L F G h))) (by decide) [1, 0] rfl ⟨trivial, ⟨(by decide : R32 0), (by decide : (0 : Int) = (0 : Int))⟩⟩ ?_
    exact wp.fin (v := some (vi (-1))) (by decide) am_m162 rfl ⟨_, rfl, Or.inl rfl, rfl⟩ H
  · rw [if_neg c2] at H
    refine pt112 (s' := (10, [some (vj a1), none, some (vj 1), none, some (vj 12), none], [vi (y_cmp a1 12)], (Wd S L F G h))) (by decide) [0, 0, 0, 0] rfl ⟨⟨trivial, ⟨y_cmp_r32, (fun e => c2 (y_cmp_lt.mp e))⟩⟩, ⟨(r64 g1), (by decide : R64 12)⟩⟩ ?_
    by_cases c3 : 12 < a1
    · rw [if_pos c3] at H
      refine pt112 (s' := (18, [some (vj a1), none, some (vj 1), none, some (vj 12), none], [vi 0], (Wd S L F G h))) (by decide) [1, 0] rfl ⟨trivial, ⟨y_cmp_r32, (y_cmp_gt.mpr c3)⟩⟩ ?_
      refine wp.fin (v := some (vi 0)) (by decide) am_m112 rfl ⟨_, rfl, Or.inr ⟨rfl, Or.inl rfl⟩, rfl⟩ ?_
      show wp 7 162 (9, [some (vr 297), some (vi a1), some (vi a2), none], [vi 0], (Wd S L F G h)) _
      refine pt162 (s' := (25, [some (vr 297), some (vi a1), some (vi a2), none], [vi (-1)], (Wd S L F G h))) (by decide) [1, 0] rfl ⟨trivial, ⟨(by decide : R32 0), (by decide : (0 : Int) = (0 : Int))⟩⟩ ?_
      exact wp.fin (v := some (vi (-1))) (by decide) am_m162 rfl ⟨_, rfl, Or.inl rfl, rfl⟩ H
    · rw [if_neg c3] at H
      refine pt112 (s' := (18, [some (vj a1), none, some (vj 1), none, some (vj 12), none], [vi 1], (Wd S L F G h))) (by decide) [0, 0, 0] rfl ⟨trivial, ⟨y_cmp_r32, (fun e => c3 (y_cmp_gt.mp e))⟩⟩ ?_
      refine wp.fin (v := some (vi 1)) (by decide) am_m112 rfl ⟨_, rfl, Or.inr ⟨rfl, Or.inr rfl⟩, rfl⟩ ?_
      show wp 7 162 (9, [some (vr 297), some (vi a1), some (vi a2), none], [vi 1], (Wd S L F G h)) _
      obtain ⟨g4, H⟩ := H
      refine pt162 (s' := (18, [some (vr 297), some (vi a1), some (vi a2), none], [vj 2, vj 1, vj a2], (Wd S L F G h))) (by decide) [0, 0, 0, 0, 0] rfl ⟨⟨trivial, ⟨(by decide : R32 1), (by decide : ¬ (1 : Int) = (0 : Int))⟩⟩, g4⟩ ?_
      refine wp.cl am_m162 rfl am_m112 6 [vj a2, vj 1, vj 2] [] rfl (Nat.le_of_ble_eq_true rfl) (Nat.le_of_ble_eq_true rfl) rfl (Nat.le_of_ble_eq_true rfl) rfl (Nat.le_of_ble_eq_true rfl) (Nat.le_of_ble_eq_true rfl) trivial ?_
      refine pt112 (s' := (3, [some (vj a2), none, some (vj 1), none, some (vj 2), none], [vi (y_cmp a2 1)], (Wd S L F G h))) (by decide) [0, 0, 0] rfl ⟨trivial, ⟨(r64 g4), (by decide : R64 1)⟩⟩ ?_
      by_cases c5 : a2 < 1
      · rw [if_pos c5] at H
        refine pt112 (s' := (18, [some (vj a2), none, some (vj 1), none, some (vj 2), none], [vi 0], (Wd S L F G h))) (by decide) [1, 0] rfl ⟨trivial, ⟨y_cmp_r32, (y_cmp_lt.mpr c5)⟩⟩ ?_
        refine wp.fin (v := some (vi 0)) (by decide) am_m112 rfl ⟨_, rfl, Or.inr ⟨rfl, Or.inl rfl⟩, rfl⟩ ?_
        show wp 7 162 (21, [some (vr 297), some (vi a1), some (vi a2), none], [vi 0], (Wd S L F G h)) _
        refine pt162 (s' := (25, [some (vr 297), some (vi a1), some (vi a2), none], [vi (-1)], (Wd S L F G h))) (by decide) [0, 0] rfl ⟨trivial, ⟨(by decide : R32 0), (by decide : (0 : Int) = (0 : Int))⟩⟩ ?_
        exact wp.fin (v := some (vi (-1))) (by decide) am_m162 rfl ⟨_, rfl, Or.inl rfl, rfl⟩ H
      · rw [if_neg c5] at H
        refine pt112 (s' := (10, [some (vj a2), none, some (vj 1), none, some (vj 2), none], [vi (y_cmp a2 2)], (Wd S L F G h))) (by decide) [0, 0, 0, 0] rfl ⟨⟨trivial, ⟨y_cmp_r32, (fun e => c5 (y_cmp_lt.mp e))⟩⟩, ⟨(r64 g4), (by decide : R64 2)⟩⟩ ?_
        by_cases c6 : 2 < a2
        · rw [if_pos c6] at H
          refine pt112 (s' := (18, [some (vj a2), none, some (vj 1), none, some (vj 2), none], [vi 0], (Wd S L F G h))) (by decide) [1, 0] rfl ⟨trivial, ⟨y_cmp_r32, (y_cmp_gt.mpr c6)⟩⟩ ?_
          refine wp.fin (v := some (vi 0)) (by decide) am_m112 rfl ⟨_, rfl, Or.inr ⟨rfl, Or.inl rfl⟩, rfl⟩ ?_
          show wp 7 162 (21, [some (vr 297), some (vi a1), some (vi a2), none], [vi 0], (Wd S L F G h)) _
          refine pt162 (s' := (25, [some (vr 297), some (vi a1), some (vi a2), none], [vi (-1)], (Wd S L F G h))) (by decide) [0, 0] rfl ⟨trivial, ⟨(by decide : R32 0), (by decide : (0 : Int) = (0 : Int))⟩⟩ ?_
          exact wp.fin (v := some (vi (-1))) (by decide) am_m162 rfl ⟨_, rfl, Or.inl rfl, rfl⟩ H
        · rw [if_neg c6] at H
          refine pt112 (s' := (18, [some (vj a2), none, some (vj 1), none, some (vj 2), none], [vi 1], (Wd S L F G h))) (by decide) [0, 0, 0] rfl ⟨trivial, ⟨y_cmp_r32, (fun e => c6 (y_cmp_gt.mp e))⟩⟩ ?_
          refine wp.fin (v := some (vi 1)) (by decide) am_m112 rfl ⟨_, rfl, Or.inr ⟨rfl, Or.inr rfl⟩, rfl⟩ ?_
          show wp 7 162 (21, [some (vr 297), some (vi a1), some (vi a2), none], [vi 1], (Wd S L F G h)) _
          obtain ⟨g7, H⟩ := H
          obtain ⟨g8, H⟩ := H
          refine pt162 (s' := (50, [some (vr 297), some (vi a1), some (vi a2), some (vi ((10 * (F 298 2)) + (F 298 3)))], [vi ((10 * a1) + a2), vi ((10 * (F 298 2)) + (F 298 3))], (Wd S L F G h))) (by decide) [1, 0, 0, 298, 0, 0, 0, 0, 298, 0, 0, 0, 0, 0, 0, 0, 0, 0, 0] rfl ⟨⟨⟨⟨⟨trivial, ⟨(by decide : R32 1), (by decide : ¬ (1 : Int) = (0 : Int))⟩⟩, ⟨Nat.le_of_ble_eq_true rfl, rfl, hh _ _ _ rfl⟩⟩, (ix ⟨Nat.le_of_ble_eq_true rfl, rfl⟩ (by decide : (0 : Int) ≤ 2 ∧ (2 : Int) < 134))⟩, ⟨Nat.le_of_ble_eq_true rfl, rfl, hh _ _ _ rfl⟩⟩, (ix ⟨Nat.le_of_ble_eq_true rfl, rfl⟩ (by decide : (0 : Int) ≤ 3 ∧ (3 : Int) < 134))⟩ ?_
          by_cases c9 : ((10 * (F 298 2)) + (F 298 3)) = ((10 * a1) + a2)
          · rw [if_pos c9] at H
            refine pt162 (s' := (55, [some (vr 297), some (vi a1), some (vi a2), some (vi ((10 * (F 298 2)) + (F 298 3)))], [vi (-2)], (Wd S L F G h))) (by decide) [0, 0] rfl ⟨trivial, ⟨⟨g7, g8⟩, c9⟩⟩ ?_
            exact wp.fin (v := some (vi (-2))) (by decide) am_m162 rfl ⟨_, rfl, Or.inl rfl, rfl⟩ H
          · rw [if_neg c9] at H
            refine pt162 (s' := (63, [some (vr 297), some (vi a1), some (vi a2), some (vi ((10 * (F 298 2)) + (F 298 3)))], [vi (F 298 0), vr 297], (Wd S L F G h))) (by decide) [1, 0, 0, 298, 0, 0] rfl ⟨⟨⟨trivial, ⟨⟨g7, g8⟩, c9⟩⟩, ⟨Nat.le_of_ble_eq_true rfl, rfl, hh _ _ _ rfl⟩⟩, (ix ⟨Nat.le_of_ble_eq_true rfl, rfl⟩ (by decide : (0 : Int) ≤ 0 ∧ (0 : Int) < 134))⟩ ?_
            refine wp.cl am_m162 rfl am_m118 6 [vr 297, vi (F 298 0)] [] rfl (Nat.le_of_ble_eq_true rfl) (Nat.le_of_ble_eq_true rfl) rfl (Nat.le_of_ble_eq_true rfl) rfl (Nat.le_of_ble_eq_true rfl) (Nat.le_of_ble_eq_true rfl) ⟨_, _, rfl, Nat.le_of_ble_eq_true rfl, rfl⟩ ?_
            refine wp.mono H ?_
            rintro v w1 ⟨v10, rfl, rfl, H⟩
            show wp 7 162 (66, [some (vr 297), some (vi a1), some (vi a2), some (vi ((10 * (F 298 2)) + (F 298 3)))], [vi v10], (Wd S L F G h)) _
            refine pt162 (s' := (68, [some (vr 297), some (vi a1), some (vi a2), some (vi ((10 * (F 298 2)) + (F 298 3)))], [vi a2, vi a1, vi v10], (Wd S L F G h))) (by decide) [0, 0] rfl trivial ?_
            refine wp.cl am_m162 rfl am_m119 6 [vi v10, vi a1, vi a2] [] rfl (Nat.le_of_ble_eq_true rfl) (Nat.le_of_ble_eq_true rfl) rfl (Nat.le_of_ble_eq_true rfl) rfl (Nat.le_of_ble_eq_true rfl) (Nat.le_of_ble_eq_true rfl) trivial ?_
            refine wp.mono H ?_
            rintro v w1 ⟨v11, rfl, rfl, H⟩
            show wp 7 162 (71, [some (vr 297), some (vi a1), some (vi a2), some (vi ((10 * (F 298 2)) + (F 298 3)))], [vi v11], (Wd S L F G h)) _
            obtain ⟨g12, H⟩ := H
            refine pt162 (s' := (73, [some (vr 297), some (vi a1), some (vi a2), some (vi ((10 * (F 298 2)) + (F 298 3)))], [vi 100, vi v11], (Wd S L F G h))) (by decide) [0] rfl trivial ?_
            by_cases c13 : v11 ≤ 100
            · rw [if_pos c13] at H
              refine pt162 (s' := (94, [some (vr 297), some (vi a1), some (vi a2), some (vi ((10 * (F 298 2)) + (F 298 3)))], [vi ((10 * (F 298 2)) + (F 298 3))], (Wd S L (am_up (am_up F 298 2 a1) 298 3 a2) G h))) (by decide) [1, 0, 298, 0, 0, 0, 0, 298, 0, 0, 0, 0] rfl ⟨⟨⟨⟨⟨trivial, ⟨⟨g12, (by decide : R32 100)⟩, c13⟩⟩, ⟨Nat.le_of_ble_eq_true rfl, rfl, hh _ _ _ rfl⟩⟩, (ix ⟨Nat.le_of_ble_eq_true rfl, rfl⟩ (by decide : (0 : Int) ≤ 2 ∧ (2 : Int) < 134))⟩, ⟨Nat.le_of_ble_eq_true rfl, rfl, hh _ _ _ rfl⟩⟩, (ix ⟨Nat.le_of_ble_eq_true rfl, rfl⟩ (by decide : (0 : Int) ≤ 3 ∧ (3 : Int) < 134))⟩ ?_
              exact wp.fin (v := some (vi ((10 * (F 298 2)) + (F 298 3)))) (by decide) am_m162 rfl ⟨_, rfl, Or.inl rfl, rfl⟩ H
            · rw [if_neg c13] at H
              refine pt162 (s' := (78, [some (vr 297), some (vi a1), some (vi a2), some (vi ((10 * (F 298 2)) + (F 298 3)))], [vi (-3)], (Wd S L F G h))) (by decide) [0, 0] rfl ⟨trivial, ⟨⟨g12, (by decide : R32 100)⟩, c13⟩⟩ ?_
              exact wp.fin (v := some (vi (-3))) (by decide) am_m162 rfl ⟨_, rfl, Or.inl rfl, rfl⟩ H
set_option maxRecDepth 100000 in
set_option maxHeartbeats 4000000 in
theorem T163_0 {S L : Nat} {F G : Nat → Nat → Int} {h : Nat → Nat → Option Nat} (hh : RfH h) {a1 : Int}  {Q : Option V2 → W2 → Prop}
    (H : (R32 a1 ∧
 (if a1 < 0 then
  Q (some (vi (-1))) (Wd S L F G h)
 else
  (if 3 < a1 then
   Q (some (vi (-1))) (Wd S L F G h)
  else
   (R32 (F 298 4) ∧
   (if (F 298 4) = a1 then
    Q (some (vi (-2))) (Wd S L (am_up F 298 4 a1) G h)
   else
    Q (some (vi (F 298 4))) (Wd S L (am_up F 298 4 a1) G h))))))) : C163_0 a1 (Wd S L F G h) Q := by
  obtain ⟨g1, H⟩ := H
  refine pt163 (s' := (6, [some (vr 297), some (vi a1), none], [vj 3, vj 0, vj a1], (Wd S L F G h))) (by decide) [0, 0, 0, 0] rfl ⟨trivial, g1⟩ ?_
  refine wp.cl am_m163 rfl am_m112 6 [vj a1, vj 0, vj 3] [] rfl (Nat.le_of_ble_eq_true rfl) (Nat.le_of_ble_eq_true rfl) rfl (Nat.le_of_ble_eq_true rfl) rfl (Nat.le_of_ble_eq_true rfl) (Nat.le_of_ble_eq_true rfl) trivial ?_
  refine pt112 (s' := (3, [some (vj a1), none, some (vj 0), none, some (vj 3), none], [vi (y_cmp a1 0)], (Wd S L F G h))) (by decide) [0, 0, 0] rfl ⟨trivial, ⟨(r64 g1), (by decide : R64 0)⟩⟩ ?_
  by_cases c2 : a1 < 0
  · rw [if_pos c2] at H
    refine pt112 (s' := (18, [some (vj a1), none, some (vj 0), none, some (vj 3), none], [vi 0], (Wd S L F G h))) (by decide) [1, 0] rfl ⟨trivial, ⟨y_cmp_r32, (y_cmp_lt.mpr c2)⟩⟩ ?_
    refine wp.fin (v := some (vi 0)) (by decide) am_m112 rfl ⟨_, rfl, Or.inr ⟨rfl, Or.inl rfl⟩, rfl⟩ ?_
    show wp 7 163 (9, [some (vr 297), some (vi a1), none], [vi 0], (Wd S L F G h)) _
    refine pt163 (s' := (13, [some (vr 297), some (vi a1), none], [vi (-1)], (Wd S L F G h))) (by decide) [0, 0] rfl ⟨trivial, ⟨(by decide : R32 0), (by decide : (0 : Int) = (0 : Int))⟩⟩ ?_
    exact wp.fin (v := some (vi (-1))) (by decide) am_m163 rfl ⟨_, rfl, Or.inl rfl, rfl⟩ H
  · rw [if_neg c2] at H
    refine pt112 (s' := (10, [some (vj a1), none, some (vj 0), none, some (vj 3), none], [vi (y_cmp a1 3)], (Wd S L F G h))) (by decide) [0, 0, 0, 0] rfl ⟨⟨trivial, ⟨y_cmp_r32, (fun e => c2 (y_cmp_lt.mp e))⟩⟩, ⟨(r64 g1), (by decide : R64 3)⟩⟩ ?_
    by_cases c3 : 3 < a1
    · rw [if_pos c3] at H
      refine pt112 (s' := (18, [some (vj a1), none, some (vj 0), none, some (vj 3), none], [vi 0], (Wd S L F G h))) (by decide) [1, 0] rfl ⟨trivial, ⟨y_cmp_r32, (y_cmp_gt.mpr c3)⟩⟩ ?_
      refine wp.fin (v := some (vi 0)) (by decide) am_m112 rfl ⟨_, rfl, Or.inr ⟨rfl, Or.inl rfl⟩, rfl⟩ ?_
      show wp 7 163 (9, [some (vr 297), some (vi a1), none], [vi 0], (Wd S L F G h)) _
      refine pt163 (s' := (13, [some (vr 297), some (vi a1), none], [vi (-1)], (Wd S L F G h))) (by decide) [0, 0] rfl ⟨trivial, ⟨(by decide : R32 0), (by decide : (0 : Int) = (0 : Int))⟩⟩ ?_
      exact wp.fin (v := some (vi (-1))) (by decide) am_m163 rfl ⟨_, rfl, Or.inl rfl, rfl⟩ H
    · rw [if_neg c3] at H
      refine pt112 (s' := (18, [some (vj a1), none, some (vj 0), none, some (vj 3), none], [vi 1], (Wd S L F G h))) (by decide) [0, 0, 0] rfl ⟨trivial, ⟨y_cmp_r32, (fun e => c3 (y_cmp_gt.mp e))⟩⟩ ?_
      refine wp.fin (v := some (vi 1)) (by decide) am_m112 rfl ⟨_, rfl, Or.inr ⟨rfl, Or.inr rfl⟩, rfl⟩ ?_
      show wp 7 163 (9, [some (vr 297), some (vi a1), none], [vi 1], (Wd S L F G h)) _
      obtain ⟨g4, H⟩ := H
      refine pt163 (s' := (30, [some (vr 297), some (vi a1), some (vi (F 298 4))], [vi a1, vi (F 298 4)], (Wd S L (am_up F 298 4 a1) G h))) (by decide) [1, 0, 298, 0, 0, 0, 0, 298, 0, 0, 0, 0, 0] rfl ⟨⟨⟨⟨⟨trivial, ⟨(by decide : R32 1), (by decide : ¬ (1 : Int) = (0 : Int))⟩⟩, ⟨Nat.le_of_ble_eq_true rfl, rfl, hh _ _ _ rfl⟩⟩, (ix ⟨Nat.le_of_ble_eq_true rfl, rfl⟩ (by decide : (0 : Int) ≤ 4 ∧ (4 : Int) < 134))⟩, ⟨Nat.le_of_ble_eq_true rfl, rfl, hh _ _ _ rfl⟩⟩, (ix ⟨Nat.le_of_ble_eq_true rfl, rfl⟩ (by decide : (0 : Int) ≤ 4 ∧ (4 : Int) < 134))⟩ ?_
      by_cases c5 : (F 298 4) = a1
      · rw [if_pos c5] at H
        refine pt163 (s' := (39, [some (vr 297), some (vi a1), some (vi (F 298 4))], [vi (-2)], (Wd S L (am_up F 298 4 a1) G h))) (by decide) [0, 0, 0] rfl ⟨trivial, ⟨⟨g4, g1⟩, c5⟩⟩ ?_
        exact wp.fin (v := some (vi (-2))) (by decide) am_m163 rfl ⟨_, rfl, Or.inl rfl, rfl⟩ H
      · rw [if_neg c5] at H
        refine pt163 (s' := (39, [some (vr 297), some (vi a1), some (vi (F 298 4))], [vi (F 298 4)], (Wd S L (am_up F 298 4 a1) G h))) (by decide) [1, 0] rfl ⟨trivial, ⟨⟨g4, g1⟩, c5⟩⟩ ?_
        exact wp.fin (v := some (vi (F 298 4))) (by decide) am_m163 rfl ⟨_, rfl, Or.inl rfl, rfl⟩ H
set_option maxRecDepth 100000 in
set_option maxHeartbeats 4000000 in
theorem T164_0 {S L : Nat} {F G : Nat → Nat → Int} {h : Nat → Nat → Option Nat} (hh : RfH h) {a1 : Int} {a2 : Int} {a3 : Int}  {Q : Option V2 → W2 → Prop}
    (H : C155_0  (Wd S L F G h) (fun v w1 => ∃ (F1 : Nat → Nat → Int), v = none ∧ w1 = (Wd S L F1 G h) ∧
  C158_0 a1 a2 a3 (Wd S L F1 G h) (fun v w1 => ∃ (v2 : Int) (F3 : Nat → Nat → Int), v = some (vi v2) ∧ w1 = (Wd S L F3 G h) ∧
   (R32 v2 ∧
   (if v2 < 0 then
    Q (some (vi v2)) (Wd S L F3 G h)
   else
    C156_0  (Wd S L F3 G h) (fun v w1 => ∃ (F6 : Nat → Nat → Int), v = none ∧ w1 = (Wd S L F6 G h) ∧
     Q (some (vi v2)) (Wd S L F6 G h))))))) : C164_0 a1 a2 a3 (Wd S L F G h) Q := by
  refine pt164 (s' := (1, [some (vr 297), some (vi a1), some (vi a2), some (vi a3)], [vr 297], (Wd S L F G h))) (by decide) [0] rfl trivial ?_
  refine wp.cl am_m164 rfl am_m155 6 [vr 297] [] rfl (Nat.le_of_ble_eq_true rfl) (Nat.le_of_ble_eq_true rfl) rfl (Nat.le_of_ble_eq_true rfl) rfl (Nat.le_of_ble_eq_true rfl) (Nat.le_of_ble_eq_true rfl) ⟨_, _, rfl, Nat.le_of_ble_eq_true rfl, rfl⟩ ?_
  refine wp.mono H ?_
  rintro v w1 ⟨F1, rfl, rfl, H⟩
  show wp 8 164 (4, [some (vr 297), some (vi a1), some (vi a2), some (vi a3)], [], (Wd S L F1 G h)) _
  refine pt164 (s' := (9, [some (vr 297), some (vi a1), some (vi a2), some (vi a3)], [vi a3, vi a2, vi a1, vr 297, vr 297], (Wd S L F1 G h))) (by decide) [0, 0, 0, 0, 0] rfl trivial ?_
  refine wp.cl am_m164 rfl am_m158 7 [vr 297, vi a1, vi a2, vi a3] [vr 297] rfl (Nat.le_of_ble_eq_true rfl) (Nat.le_of_ble_eq_true rfl) rfl (Nat.le_of_ble_eq_true rfl) rfl (Nat.le_of_ble_eq_true rfl) (Nat.le_of_ble_eq_true rfl) ⟨_, _, rfl, Nat.le_of_ble_eq_true rfl, rfl⟩ ?_
  refine wp.mono H ?_
  rintro v w1 ⟨v2, F3, rfl, rfl, H⟩
  show wp 8 164 (12, [some (vr 297), some (vi a1), some (vi a2), some (vi a3)], [vi v2, vr 297], (Wd S L F3 G h)) _
  refine wp.cl am_m164 rfl am_m157 7 [vr 297, vi v2] [] rfl (Nat.le_of_ble_eq_true rfl) (Nat.le_of_ble_eq_true rfl) rfl (Nat.le_of_ble_eq_true rfl) rfl (Nat.le_of_ble_eq_true rfl) (Nat.le_of_ble_eq_true rfl) ⟨_, _, rfl, Nat.le_of_ble_eq_true rfl, rfl⟩ ?_
  obtain ⟨g4, H⟩ := H
  refine pt157 (s' := (1, [some (vr 297), some (vi v2)], [vi v2], (Wd S L F3 G h))) (by decide) [0] rfl trivial ?_
  by_cases c5 : v2 < 0
  · rw [if_pos c5] at H
    refine pt157 (s' := (9, [some (vr 297), some (vi v2)], [vi v2], (Wd S L F3 G h))) (by decide) [1, 0] rfl ⟨trivial, ⟨g4, c5⟩⟩ ?_
    refine wp.fin (v := some (vi v2)) (by decide) am_m157 rfl ⟨_, rfl, Or.inl rfl, rfl⟩ ?_
    show wp 8 164 (15, [some (vr 297), some (vi a1), some (vi a2), some (vi a3)], [vi v2], (Wd S L F3 G h)) _
    exact wp.fin (v := some (vi v2)) (by decide) am_m164 rfl ⟨_, rfl, Or.inl rfl, rfl⟩ H
  · rw [if_neg c5] at H
    refine pt157 (s' := (5, [some (vr 297), some (vi v2)], [vr 297], (Wd S L F3 G h))) (by decide) [0, 0] rfl ⟨trivial, ⟨g4, c5⟩⟩ ?_
    refine wp.cl am_m157 rfl am_m156 6 [vr 297] [] rfl (Nat.le_of_ble_eq_true rfl) (Nat.le_of_ble_eq_true rfl) rfl (Nat.le_of_ble_eq_true rfl) rfl (Nat.le_of_ble_eq_true rfl) (Nat.le_of_ble_eq_true rfl) ⟨_, _, rfl, Nat.le_of_ble_eq_true rfl, rfl⟩ ?_
    refine wp.mono H ?_
    rintro v w1 ⟨F6, rfl, rfl, H⟩
    show wp 7 157 (8, [some (vr 297), some (vi v2)], [], (Wd S L F6 G h)) _
    refine pt157 (s' := (9, [some (vr 297), some (vi v2)], [vi v2], (Wd S L F6 G h))) (by decide) [0] rfl trivial ?_
    refine wp.fin (v := some (vi v2)) (by decide) am_m157 rfl ⟨_, rfl, Or.inl rfl, rfl⟩ ?_
    show wp 8 164 (15, [some (vr 297), some (vi a1), some (vi a2), some (vi a3)], [vi v2], (Wd S L F6 G h)) _
    exact wp.fin (v := some (vi v2)) (by decide) am_m164 rfl ⟨_, rfl, Or.inl rfl, rfl⟩ H
set_option maxRecDepth 100000 in
set_option maxHeartbeats 4000000 in
theorem T165_0 {S L : Nat} {F G : Nat → Nat → Int} {h : Nat → Nat → Option Nat} (hh : RfH h) {a1 : Int} {a2 : Int} {a3 : Int}  {Q : Option V2 → W2 → Prop}
    (H : C155_0  (Wd S L F G h) (fun v w1 => ∃ (F1 : Nat → Nat → Int), v = none ∧ w1 = (Wd S L F1 G h) ∧
  C159_0 a1 a2 a3 (Wd S L F1 G h) (fun v w1 => ∃ (v2 : Int) (F3 : Nat → Nat → Int), v = some (vi v2) ∧ w1 = (Wd S L F3 G h) ∧
   (R32 v2 ∧
   (if v2 < 0 then
    Q (some (vi v2)) (Wd S L F3 G h)
   else
    C156_0  (Wd S L F3 G h) (fun v w1 => ∃ (F6 : Nat → Nat → Int), v = none ∧ w1 = (Wd S L F6 G h) ∧
     Q (some (vi v2)) (Wd S L F6 G h))))))) : C165_0 a1 a2 a3 (Wd S L F G h) Q := by
  refine pt165 (s' := (1, [some (vr 297), some (vi a1), some (vi a2), some (vi a3)], [vr 297], (Wd S L F G h))) (by decide) [0] rfl trivial ?_
  refine wp.cl am_m165 rfl am_m155 6 [vr 297] [] rfl (Nat.le_of_ble_eq_true rfl) (Nat.le_of_ble_eq_true rfl) rfl (Nat.le_of_ble_eq_true rfl) rfl (Nat.le_of_ble_eq_true rfl) (Nat.le_of_ble_eq_true rfl) ⟨_, _, rfl, Nat.le_of_ble_eq_true rfl, rfl⟩ ?_
  refine wp.mono H ?_
  rintro v w1 ⟨F1, rfl, rfl, H⟩
  show wp 8 165 (4, [some (vr 297), some (vi a1), some (vi a2), some (vi a3)], [], (Wd S L F1 G h)) _
  refine pt165 (s' := (9, [some (vr 297), some (vi a1), some (vi a2), some (vi a3)], [vi a3, vi a2, vi a1, vr 297, vr 297], (Wd S L F1 G h))) (by decide) [0, 0, 0, 0, 0] rfl trivial ?_
  refine wp.cl am_m165 rfl am_m159 7 [vr 297, vi a1, vi a2, vi a3] [vr 297] rfl (Nat.le_of_ble_eq_true rfl) (Nat.le_of_ble_eq_true rfl) rfl (Nat.le_of_ble_eq_true rfl) rfl (Nat.le_of_ble_eq_true rfl) (Nat.le_of_ble_eq_true rfl) ⟨_, _, rfl, Nat.le_of_ble_eq_true rfl, rfl⟩ ?_
  refine wp.mono H ?_
  rintro v w1 ⟨v2, F3, rfl, rfl, H⟩
  show wp 8 165 (12, [some (vr 297), some (vi a1), some (vi a2), some (vi a3)], [vi v2, vr 297], (Wd S L F3 G h)) _
  refine wp.cl am_m165 rfl am_m157 7 [vr 297, vi v2] [] rfl (Nat.le_of_ble_eq_true rfl) (Nat.le_of_ble_eq_true rfl) rfl (Nat.le_of_ble_eq_true rfl) rfl (Nat.le_of_ble_eq_true rfl) (Nat.le_of_ble_eq_true rfl) ⟨_, _, rfl, Nat.le_of_ble_eq_true rfl, rfl⟩ ?_
  obtain ⟨g4, H⟩ := H
  refine pt157 (s' := (1, [some (vr 297), some (vi v2)], [vi v2], (Wd S L F3 G h))) (by decide) [0] rfl trivial ?_
  by_cases c5 : v2 < 0
  · rw [if_pos c5] at H
    refine pt157 (s' := (9, [some (vr 297), some (vi v2)], [vi v2], (Wd S L F3 G h))) (by decide) [1, 0] rfl ⟨trivial, ⟨g4, c5⟩⟩ ?_
    refine wp.fin (v := some (vi v2)) (by decide) am_m157 rfl ⟨_, rfl, Or.inl rfl, rfl⟩ ?_
    show wp 8 165 (15, [some (vr 297), some (vi a1), some (vi a2), some (vi a3)], [vi v2], (Wd S L F3 G h)) _
    exact wp.fin (v := some (vi v2)) (by decide) am_m165 rfl ⟨_, rfl, Or.inl rfl, rfl⟩ H
  · rw [if_neg c5] at H
    refine pt157 (s' := (5, [some (vr 297), some (vi v2)], [vr 297], (Wd S L F3 G h))) (by decide) [0, 0] rfl ⟨trivial, ⟨g4, c5⟩⟩ ?_
    refine wp.cl am_m157 rfl am_m156 6 [vr 297] [] rfl (Nat.le_of_ble_eq_true rfl) (Nat.le_of_ble_eq_true rfl) rfl (Nat.le_of_ble_eq_true rfl) rfl (Nat.le_of_ble_eq_true rfl) (Nat.le_of_ble_eq_true rfl) ⟨_, _, rfl, Nat.le_of_ble_eq_true rfl, rfl⟩ ?_
    refine wp.mono H ?_
    rintro v w1 ⟨F6, rfl, rfl, H⟩
    show wp 7 157 (8, [some (vr 297), some (vi v2)], [], (Wd S L F6 G h)) _
    refine pt157 (s' := (9, [some (vr 297), some (vi v2)], [vi v2], (Wd S L F6 G h))) (by decide) [0] rfl trivial ?_
    refine wp.fin (v := some (vi v2)) (by decide) am_m157 rfl ⟨_, rfl, Or.inl rfl, rfl⟩ ?_
    show wp 8 165 (15, [some (vr 297), some (vi a1), some (vi a2), some (vi a3)], [vi v2], (Wd S L F6 G h)) _
    exact wp.fin (v := some (vi v2)) (by decide) am_m165 rfl ⟨_, rfl, Or.inl rfl, rfl⟩ H
set_option maxRecDepth 100000 in
set_option maxHeartbeats 4000000 in
theorem T166_0 {S L : Nat} {F G : Nat → Nat → Int} {h : Nat → Nat → Option Nat} (hh : RfH h) {a1 : Int} {a2 : Int}  {Q : Option V2 → W2 → Prop}
    (H : C155_0  (Wd S L F G h) (fun v w1 => ∃ (F1 : Nat → Nat → Int), v = none ∧ w1 = (Wd S L F1 G h) ∧
  C160_0 a1 a2 (Wd S L F1 G h) (fun v w1 => ∃ (v2 : Int) (F3 : Nat → Nat → Int), v = some (vi v2) ∧ w1 = (Wd S L F3 G h) ∧
   (R32 v2 ∧
   (if v2 < 0 then
    Q (some (vi v2)) (Wd S L F3 G h)
   else
    C156_0  (Wd S L F3 G h) (fun v w1 => ∃ (F6 : Nat → Nat → Int), v = none ∧ w1 = (Wd S L F6 G h) ∧
     Q (some (vi v2)) (Wd S L F6 G h))))))) : C166_0 a1 a2 (Wd S L F G h) Q := by
  refine pt166 (s' := (1, [some (vr 297), some (vi a1), some (vi a2)], [vr 297], (Wd S L F G h))) (by decide) [0] rfl trivial ?_
  refine wp.cl am_m166 rfl am_m155 6 [vr 297] [] rfl (Nat.le_of_ble_eq_true rfl) (Nat.le_of_ble_eq_true rfl) rfl (Nat.le_of_ble_eq_true rfl) rfl (Nat.le_of_ble_eq_true rfl) (Nat.le_of_ble_eq_true rfl) ⟨_, _, rfl, Nat.le_of_ble_eq_true rfl, rfl⟩ ?_
  refine wp.mono H ?_
  rintro v w1 ⟨F1, rfl, rfl, H⟩
  show wp 8 166 (4, [some (vr 297), some (vi a1), some (vi a2)], [], (Wd S L F1 G h)) _
  refine pt166 (s' := (8, [some (vr 297), some (vi a1), some (vi a2)], [vi a2, vi a1, vr 297, vr 297], (Wd S L F1 G h))) (by decide) [0, 0, 0, 0] rfl trivial ?_
  refine wp.cl am_m166 rfl am_m160 7 [vr 297, vi a1, vi a2] [vr 297] rfl (Nat.le_of_ble_eq_true rfl) (Nat.le_of_ble_eq_true rfl) rfl (Nat.le_of_ble_eq_true rfl) rfl (Nat.le_of_ble_eq_true rfl) (Nat.le_of_ble_eq_true rfl) ⟨_, _, rfl, Nat.le_of_ble_eq_true rfl, rfl⟩ ?_
  refine wp.mono H ?_
  rintro v w1 ⟨v2, F3, rfl, rfl, H⟩
  show wp 8 166 (11, [some (vr 297), some (vi a1), some (vi a2)], [vi v2, vr 297], (Wd S L F3 G h)) _
  refine wp.cl am_m166 rfl am_m157 7 [vr 297, vi v2] [] rfl (Nat.le_of_ble_eq_true rfl) (Nat.le_of_ble_eq_true rfl) rfl (Nat.le_of_ble_eq_true rfl) rfl (Nat.le_of_ble_eq_true rfl) (Nat.le_of_ble_eq_true rfl) ⟨_, _, rfl, Nat.le_of_ble_eq_true rfl, rfl⟩ ?_
  obtain ⟨g4, H⟩ := H
  refine pt157 (s' := (1, [some (vr 297), some (vi v2)], [vi v2], (Wd S L F3 G h))) (by decide) [0] rfl trivial ?_
  by_cases c5 : v2 < 0
  · rw [if_pos c5] at H
    refine pt157 (s' := (9, [some (vr 297), some (vi v2)], [vi v2], (Wd S L F3 G h))) (by decide) [1, 0] rfl ⟨trivial, ⟨g4, c5⟩⟩ ?_
    refine wp.fin (v := some (vi v2)) (by decide) am_m157 rfl ⟨_, rfl, Or.inl rfl, rfl⟩ ?_
    show wp 8 166 (14, [some (vr 297), some (vi a1), some (vi a2)], [vi v2], (Wd S L F3 G h)) _
    exact wp.fin (v := some (vi v2)) (by decide) am_m166 rfl ⟨_, rfl, Or.inl rfl, rfl⟩ H
  · rw [if_neg c5] at H
    refine pt157 (s' := (5, [some (vr 297), some (vi v2)], [vr 297], (Wd S L F3 G h))) (by decide) [0, 0] rfl ⟨trivial, ⟨g4, c5⟩⟩ ?_
    refine wp.cl am_m157 rfl am_m156 6 [vr 297] [] rfl (Nat.le_of_ble_eq_true rfl) (Nat.le_of_ble_eq_true rfl) rfl (Nat.le_of_ble_eq_true rfl) rfl (Nat.le_of_ble_eq_true rfl) (Nat.le_of_ble_eq_true rfl) ⟨_, _, rfl, Nat.le_of_ble_eq_true rfl, rfl⟩ ?_
    refine wp.mono H ?_
    rintro v w1 ⟨F6, rfl, rfl, H⟩
    show wp 7 157 (8, [some (vr 297), some (vi v2)], [], (Wd S L F6 G h)) _
    refine pt157 (s' := (9, [some (vr 297), some (vi v2)], [vi v2], (Wd S L F6 G h))) (by decide) [0] rfl trivial ?_
    refine wp.fin (v := some (vi v2)) (by decide) am_m157 rfl ⟨_, rfl, Or.inl rfl, rfl⟩ ?_
    show wp 8 166 (14, [some (vr 297), some (vi a1), some (vi a2)], [vi v2], (Wd S L F6 G h)) _
    exact wp.fin (v := some (vi v2)) (by decide) am_m166 rfl ⟨_, rfl, Or.inl rfl, rfl⟩ H
set_option maxRecDepth 100000 in
set_option maxHeartbeats 4000000 in
theorem T167_0 {S L : Nat} {F G : Nat → Nat → Int} {h : Nat → Nat → Option Nat} (hh : RfH h) {a1 : Int}  {Q : Option V2 → W2 → Prop}
    (H : C155_0  (Wd S L F G h) (fun v w1 => ∃ (F1 : Nat → Nat → Int), v = none ∧ w1 = (Wd S L F1 G h) ∧
  C161_0 a1 (Wd S L F1 G h) (fun v w1 => ∃ (v2 : Int) (F3 : Nat → Nat → Int), v = some (vi v2) ∧ w1 = (Wd S L F3 G h) ∧
   (R32 v2 ∧
   (if v2 < 0 then
    Q (some (vi v2)) (Wd S L F3 G h)
   else
    C156_0  (Wd S L F3 G h) (fun v w1 => ∃ (F6 : Nat → Nat → Int), v = none ∧ w1 = (Wd S L F6 G h) ∧
     Q (some (vi v2)) (Wd S L F6 G h))))))) : C167_0 a1 (Wd S L F G h) Q := by
  refine pt167 (s' := (1, [some (vr 297), some (vi a1)], [vr 297], (Wd S L F G h))) (by decide) [0] rfl trivial ?_
  refine wp.cl am_m167 rfl am_m155 6 [vr 297] [] rfl (Nat.le_of_ble_eq_true rfl) (Nat.le_of_ble_eq_true rfl) rfl (Nat.le_of_ble_eq_true rfl) rfl (Nat.le_of_ble_eq_true rfl) (Nat.le_of_ble_eq_true rfl) ⟨_, _, rfl, Nat.le_of_ble_eq_true rfl, rfl⟩ ?_
  refine wp.mono H ?_
  rintro v w1 ⟨F1, rfl, rfl, H⟩
  show wp 9 167 (4, [some (vr 297), some (vi a1)], [], (Wd S L F1 G h)) _
  refine pt167 (s' := (7, [some (vr 297), some (vi a1)], [vi a1, vr 297, vr 297], (Wd S L F1 G h))) (by decide) [0, 0, 0] rfl trivial ?_
  refine wp.cl am_m167 rfl am_m161 8 [vr 297, vi a1] [vr 297] rfl (Nat.le_of_ble_eq_true rfl) (Nat.le_of_ble_eq_true rfl) rfl (Nat.le_of_ble_eq_true rfl) rfl (Nat.le_of_ble_eq_true rfl) (Nat.le_of_ble_eq_true rfl) ⟨_, _, rfl, Nat.le_of_ble_eq_true rfl, rfl⟩ ?_
  refine wp.mono H ?_
  rintro v w1 ⟨v2, F3, rfl, rfl, H⟩
  show wp 9 167 (10, [some (vr 297), some (vi a1)], [vi v2, vr 297], (Wd S L F3 G h)) _
  refine wp.cl am_m167 rfl am_m157 7 [vr 297, vi v2] [] rfl (Nat.le_of_ble_eq_true rfl) (Nat.le_of_ble_eq_true rfl) rfl (Nat.le_of_ble_eq_true rfl) rfl (Nat.le_of_ble_eq_true rfl) (Nat.le_of_ble_eq_true rfl) ⟨_, _, rfl, Nat.le_of_ble_eq_true rfl, rfl⟩ ?_
  obtain ⟨g4, H⟩ := H
  refine pt157 (s' := (1, [some (vr 297), some (vi v2)], [vi v2], (Wd S L F3 G h))) (by decide) [0] rfl trivial ?_
  by_cases c5 : v2 < 0
  · rw [if_pos c5] at H
    refine pt157 (s' := (9, [some (vr 297), some (vi v2)], [vi v2], (Wd S L F3 G h))) (by decide) [1, 0] rfl ⟨trivial, ⟨g4, c5⟩⟩ ?_
    refine wp.fin (v := some (vi v2)) (by decide) am_m157 rfl ⟨_, rfl, Or.inl rfl, rfl⟩ ?_
    show wp 9 167 (13, [some (vr 297), some (vi a1)], [vi v2], (Wd S L F3 G h)) _
    exact wp.fin (v := some (vi v2)) (by decide) am_m167 rfl ⟨_, rfl, Or.inl rfl, rfl⟩ H
  · rw [if_neg c5] at H
    refine pt157 (s' := (5, [some (vr 297), some (vi v2)], [vr 297], (Wd S L F3 G h))) (by decide) [0, 0] rfl ⟨trivial, ⟨g4, c5⟩⟩ ?_
    refine wp.cl am_m157 rfl am_m156 6 [vr 297] [] rfl (Nat.le_of_ble_eq_true rfl) (Nat.le_of_ble_eq_true rfl) rfl (Nat.le_of_ble_eq_true rfl) rfl (Nat.le_of_ble_eq_true rfl) (Nat.le_of_ble_eq_true rfl) ⟨_, _, rfl, Nat.le_of_ble_eq_true rfl, rfl⟩ ?_
    refine wp.mono H ?_
    rintro v w1 ⟨F6, rfl, rfl, H⟩
    show wp 7 157 (8, [some (vr 297), some (vi v2)], [], (Wd S L F6 G h)) _
    refine pt157 (s' := (9, [some (vr 297), some (vi v2)], [vi v2], (Wd S L F6 G h))) (by decide) [0] rfl trivial ?_
    refine wp.fin (v := some (vi v2)) (by decide) am_m157 rfl ⟨_, rfl, Or.inl rfl, rfl⟩ ?_
    show wp 9 167 (13, [some (vr 297), some (vi a1)], [vi v2], (Wd S L F6 G h)) _
    exact wp.fin (v := some (vi v2)) (by decide) am_m167 rfl ⟨_, rfl, Or.inl rfl, rfl⟩ H
set_option maxRecDepth 100000 in
set_option maxHeartbeats 4000000 in
theorem T168_0 {S L : Nat} {F G : Nat → Nat → Int} {h : Nat → Nat → Option Nat} (hh : RfH h) {a1 : Int} {a2 : Int}  {Q : Option V2 → W2 → Prop}
    (H : C155_0  (Wd S L F G h) (fun v w1 => ∃ (F1 : Nat → Nat → Int), v = none ∧ w1 = (Wd S L F1 G h) ∧
  C162_0 a1 a2 (Wd S L F1 G h) (fun v w1 => ∃ (v2 : Int) (F3 : Nat → Nat → Int), v = some (vi v2) ∧ w1 = (Wd S L F3 G h) ∧
   (R32 v2 ∧
   (if v2 < 0 then
    Q (some (vi v2)) (Wd S L F3 G h)
   else
    C156_0  (Wd S L F3 G h) (fun v w1 => ∃ (F6 : Nat → Nat → Int), v = none ∧ w1 = (Wd S L F6 G h) ∧
     Q (some (vi v2)) (Wd S L F6 G h))))))) : C168_0 a1 a2 (Wd S L F G h) Q := by
  refine pt168 (s' := (1, [some (vr 297), some (vi a1), some (vi a2)], [vr 297], (Wd S L F G h))) (by decide) [0] rfl trivial ?_
  refine wp.cl am_m168 rfl am_m155 6 [vr 297] [] rfl (Nat.le_of_ble_eq_true rfl) (Nat.le_of_ble_eq_true rfl) rfl (Nat.le_of_ble_eq_true rfl) rfl (Nat.le_of_ble_eq_true rfl) (Nat.le_of_ble_eq_true rfl) ⟨_, _, rfl, Nat.le_of_ble_eq_true rfl, rfl⟩ ?_
  refine wp.mono H ?_
  rintro v w1 ⟨F1, rfl, rfl, H⟩
  show wp 8 168 (4, [some (vr 297), some (vi a1), some (vi a2)], [], (Wd S L F1 G h)) _
  refine pt168 (s' := (8, [some (vr 297), some (vi a1), some (vi a2)], [vi a2, vi a1, vr 297, vr 297], (Wd S L F1 G h))) (by decide) [0, 0, 0, 0] rfl trivial ?_
  refine wp.cl am_m168 rfl am_m162 7 [vr 297, vi a1, vi a2] [vr 297] rfl (Nat.le_of_ble_eq_true rfl) (Nat.le_of_ble_eq_true rfl) rfl (Nat.le_of_ble_eq_true rfl) rfl (Nat.le_of_ble_eq_true rfl) (Nat.le_of_ble_eq_true rfl) ⟨_, _, rfl, Nat.le_of_ble_eq_true rfl, rfl⟩ ?_
  refine wp.mono H ?_
  rintro v w1 ⟨v2, F3, rfl, rfl, H⟩
  show wp 8 168 (11, [some (vr 297), some (vi a1), some (vi a2)], [vi v2, vr 297], (Wd S L F3 G h)) _
  refine wp.cl am_m168 rfl am_m157 7 [vr 297, vi v2] [] rfl (Nat.le_of_ble_eq_true rfl) (Nat.le_of_ble_eq_true rfl) rfl (Nat.le_of_ble_eq_true rfl) rfl (Nat.le_of_ble_eq_true rfl) (Nat.le_of_ble_eq_true rfl) ⟨_, _, rfl, Nat.le_of_ble_eq_true rfl, rfl⟩ ?_
  obtain ⟨g4, H⟩ := H
  refine pt157 (s' := (1, [some (vr 297), some (vi v2)], [vi v2], (Wd S L F3 G h))) (by decide) [0] rfl trivial ?_
  by_cases c5 : v2 < 0
  · rw [if_pos c5] at H
    refine pt157 (s' := (9, [some (vr 297), some (vi v2)], [vi v2], (Wd S L F3 G h))) (by decide) [1, 0] rfl ⟨trivial, ⟨g4, c5⟩⟩ ?_
    refine wp.fin (v := some (vi v2)) (by decide) am_m157 rfl ⟨_, rfl, Or.inl rfl, rfl⟩ ?_
    show wp 8 168 (14, [some (vr 297), some (vi a1), some (vi a2)], [vi v2], (Wd S L F3 G h)) _
    exact wp.fin (v := some (vi v2)) (by decide) am_m168 rfl ⟨_, rfl, Or.inl rfl, rfl⟩ H
  · rw [if_neg c5] at H
    refine pt157 (s' := (5, [some (vr 297), some (vi v2)], [vr 297], (Wd S L F3 G h))) (by decide) [0, 0] rfl ⟨trivial, ⟨g4, c5⟩⟩ ?_
    refine wp.cl am_m157 rfl am_m156 6 [vr 297] [] rfl (Nat.le_of_ble_eq_true rfl) (Nat.le_of_ble_eq_true rfl) rfl (Nat.le_of_ble_eq_true rfl) rfl (Nat.le_of_ble_eq_true rfl) (Nat.le_of_ble_eq_true rfl) ⟨_, _, rfl, Nat.le_of_ble_eq_true rfl, rfl⟩ ?_
    refine wp.mono H ?_
    rintro v w1 ⟨F6, rfl, rfl, H⟩
    show wp 7 157 (8, [some (vr 297), some (vi v2)], [], (Wd S L F6 G h)) _
    refine pt157 (s' := (9, [some (vr 297), some (vi v2)], [vi v2], (Wd S L F6 G h))) (by decide) [0] rfl trivial ?_
    refine wp.fin (v := some (vi v2)) (by decide) am_m157 rfl ⟨_, rfl, Or.inl rfl, rfl⟩ ?_
    show wp 8 168 (14, [some (vr 297), some (vi a1), some (vi a2)], [vi v2], (Wd S L F6 G h)) _
    exact wp.fin (v := some (vi v2)) (by decide) am_m168 rfl ⟨_, rfl, Or.inl rfl, rfl⟩ H
set_option maxRecDepth 100000 in
set_option maxHeartbeats 4000000 in
theorem T169_0 {S L : Nat} {F G : Nat → Nat → Int} {h : Nat → Nat → Option Nat} (hh : RfH h) {a1 : Int}  {Q : Option V2 → W2 → Prop}
    (H : C155_0  (Wd S L F G h) (fun v w1 => ∃ (F1 : Nat → Nat → Int), v = none ∧ w1 = (Wd S L F1 G h) ∧
  C163_0 a1 (Wd S L F1 G h) (fun v w1 => ∃ (v2 : Int) (F3 : Nat → Nat → Int), v = some (vi v2) ∧ w1 = (Wd S L F3 G h) ∧
   (R32 v2 ∧
   (if v2 < 0 then
    Q (some (vi v2)) (Wd S L F3 G h)
   else
    C156_0  (Wd S L F3 G h) (fun v w1 => ∃ (F6 : Nat → Nat → Int), v = none ∧ w1 = (Wd S L F6 G h) ∧
     Q (some (vi v2)) (Wd S L F6 G h))))))) : C169_0 a1 (Wd S L F G h) Q := by
  refine pt169 (s' := (1, [some (vr 297), some (vi a1)], [vr 297], (Wd S L F G h))) (by decide) [0] rfl trivial ?_
  refine wp.cl am_m169 rfl am_m155 6 [vr 297] [] rfl (Nat.le_of_ble_eq_true rfl) (Nat.le_of_ble_eq_true rfl) rfl (Nat.le_of_ble_eq_true rfl) rfl (Nat.le_of_ble_eq_true rfl) (Nat.le_of_ble_eq_true rfl) ⟨_, _, rfl, Nat.le_of_ble_eq_true rfl, rfl⟩ ?_
  refine wp.mono H ?_
  rintro v w1 ⟨F1, rfl, rfl, H⟩
  show wp 8 169 (4, [some (vr 297), some (vi a1)], [], (Wd S L F1 G h)) _
  refine pt169 (s' := (7, [some (vr 297), some (vi a1)], [vi a1, vr 297, vr 297], (Wd S L F1 G h))) (by decide) [0, 0, 0] rfl trivial ?_
  refine wp.cl am_m169 rfl am_m163 7 [vr 297, vi a1] [vr 297] rfl (Nat.le_of_ble_eq_true rfl) (Nat.le_of_ble_eq_true rfl) rfl (Nat.le_of_ble_eq_true rfl) rfl (Nat.le_of_ble_eq_true rfl) (Nat.le_of_ble_eq_true rfl) ⟨_, _, rfl, Nat.le_of_ble_eq_true rfl, rfl⟩ ?_
  refine wp.mono H ?_
  rintro v w1 ⟨v2, F3, rfl, rfl, H⟩
  show wp 8 169 (10, [some (vr 297), some (vi a1)], [vi v2, vr 297], (Wd S L F3 G h)) _
  refine wp.cl am_m169 rfl am_m157 7 [vr 297, vi v2] [] rfl (Nat.le_of_ble_eq_true rfl) (Nat.le_of_ble_eq_true rfl) rfl (Nat.le_of_ble_eq_true rfl) rfl (Nat.le_of_ble_eq_true rfl) (Nat.le_of_ble_eq_true rfl) ⟨_, _, rfl, Nat.le_of_ble_eq_true rfl, rfl⟩ ?_
  obtain ⟨g4, H⟩ := H
  refine pt157 (s' := (1, [some (vr 297), some (vi v2)], [vi v2], (Wd S L F3 G h))) (by decide) [0] rfl trivial ?_
  by_cases c5 : v2 < 0
  · rw [if_pos c5] at H
    refine pt157 (s' := (9, [some (vr 297), some (vi v2)], [vi v2], (Wd S L F3 G h))) (by decide) [1, 0] rfl ⟨trivial, ⟨g4, c5⟩⟩ ?_
    refine wp.fin (v := some (vi v2)) (by decide) am_m157 rfl ⟨_, rfl, Or.inl rfl, rfl⟩ ?_
    show wp 8 169 (13, [some (vr 297), some (vi a1)], [vi v2], (Wd S L F3 G h)) _
    exact wp.fin (v := some (vi v2)) (by decide) am_m169 rfl ⟨_, rfl, Or.inl rfl, rfl⟩ H
  · rw [if_neg c5] at H
    refine pt157 (s' := (5, [some (vr 297), some (vi v2)], [vr 297], (Wd S L F3 G h))) (by decide) [0, 0] rfl ⟨trivial, ⟨g4, c5⟩⟩ ?_
    refine wp.cl am_m157 rfl am_m156 6 [vr 297] [] rfl (Nat.le_of_ble_eq_true rfl) (Nat.le_of_ble_eq_true rfl) rfl (Nat.le_of_ble_eq_true rfl) rfl (Nat.le_of_ble_eq_true rfl) (Nat.le_of_ble_eq_true rfl) ⟨_, _, rfl, Nat.le_of_ble_eq_true rfl, rfl⟩ ?_
    refine wp.mono H ?_
    rintro v w1 ⟨F6, rfl, rfl, H⟩
    show wp 7 157 (8, [some (vr 297), some (vi v2)], [], (Wd S L F6 G h)) _
    refine pt157 (s' := (9, [some (vr 297), some (vi v2)], [vi v2], (Wd S L F6 G h))) (by decide) [0] rfl trivial ?_
    refine wp.fin (v := some (vi v2)) (by decide) am_m157 rfl ⟨_, rfl, Or.inl rfl, rfl⟩ ?_
    show wp 8 169 (13, [some (vr 297), some (vi a1)], [vi v2], (Wd S L F6 G h)) _
    exact wp.fin (v := some (vi v2)) (by decide) am_m169 rfl ⟨_, rfl, Or.inl rfl, rfl⟩ H
set_option maxRecDepth 100000 in
set_option maxHeartbeats 4000000 in
theorem T170_0 {S L : Nat} {F G : Nat → Nat → Int} {h : Nat → Nat → Option Nat} (hh : RfH h) {a1 : Int}  {Q : Option V2 → W2 → Prop}
    (H : (R32 a1 ∧
 R32 ((F 298 1) - 1) ∧
 (if a1 < 0 then
  Q (some (vi (-1))) (Wd S L F G h)
 else
  (if ((F 298 1) - 1) < a1 then
   Q (some (vi (-1))) (Wd S L F G h)
  else
   C155_0  (Wd S L F G h) (fun v w1 => ∃ (F5 : Nat → Nat → Int), v = none ∧ w1 = (Wd S L F5 G h) ∧
    C156_0  (Wd S L F5 G h) (fun v w1 => ∃ (F6 : Nat → Nat → Int), v = none ∧ w1 = (Wd S L F6 G h) ∧
     C170_36 (70 + (8 * a1)) (Wd S L (am_up F6 298 1 ((F6 298 1) - 1)) G h) Q)))))) : C170_0 a1 (Wd S L F G h) Q := by
  refine pt170 (s' := (2, [some (vr 297), some (vi a1), none], [vi a1, vr 297], (Wd S L F G h))) (by decide) [0, 0] rfl trivial ?_
  refine wp.cl am_m170 rfl am_m142 7 [vr 297, vi a1] [] rfl (Nat.le_of_ble_eq_true rfl) (Nat.le_of_ble_eq_true rfl) rfl (Nat.le_of_ble_eq_true rfl) rfl (Nat.le_of_ble_eq_true rfl) (Nat.le_of_ble_eq_true rfl) ⟨_, _, rfl, Nat.le_of_ble_eq_true rfl, rfl⟩ ?_
  obtain ⟨g1, H⟩ := H
  obtain ⟨g2, H⟩ := H
  refine pt142 (s' := (12, [some (vr 297), some (vi a1)], [vj ((F 298 1) - 1), vj 0, vj a1], (Wd S L F G h))) (by decide) [0, 0, 0, 0, 298, 0, 0, 0, 0, 0] rfl ⟨⟨⟨⟨trivial, g1⟩, ⟨Nat.le_of_ble_eq_true rfl, rfl, hh _ _ _ rfl⟩⟩, (ix ⟨Nat.le_of_ble_eq_true rfl, rfl⟩ (by decide : (0 : Int) ≤ 1 ∧ (1 : Int) < 134))⟩, g2⟩ ?_
  refine wp.cl am_m142 rfl am_m112 6 [vj a1, vj 0, vj ((F 298 1) - 1)] [] rfl (Nat.le_of_ble_eq_true rfl) (Nat.le_of_ble_eq_true rfl) rfl (Nat.le_of_ble_eq_true rfl) rfl (Nat.le_of_ble_eq_true rfl) (Nat.le_of_ble_eq_true rfl) trivial ?_
  refine pt112 (s' := (3, [some (vj a1), none, some (vj 0), none, some (vj ((F 298 1) - 1)), none], [vi (y_cmp a1 0)], (Wd S L F G h))) (by decide) [0, 0, 0] rfl ⟨trivial, ⟨(r64 g1), (by decide : R64 0)⟩⟩ ?_
  by_cases c3 : a1 < 0
  · rw [if_pos c3] at H
    refine pt112 (s' := (18, [some (vj a1), none, some (vj 0), none, some (vj ((F 298 1) - 1)), none], [vi 0], (Wd S L F G h))) (by decide) [1, 0] rfl ⟨trivial, ⟨y_cmp_r32, (y_cmp_lt.mpr c3)⟩⟩ ?_
    refine wp.fin (v := some (vi 0)) (by decide) am_m112 rfl ⟨_, rfl, Or.inr ⟨rfl, Or.inl rfl⟩, rfl⟩ ?_
    show wp 7 142 (15, [some (vr 297), some (vi a1)], [vi 0], (Wd S L F G h)) _
    refine wp.fin (v := some (vi 0)) (by decide) am_m142 rfl ⟨_, rfl, Or.inr ⟨rfl, Or.inl rfl⟩, rfl⟩ ?_
    show wp 8 170 (5, [some (vr 297), some (vi a1), none], [vi 0], (Wd S L F G h)) _
    refine pt170 (s' := (9, [some (vr 297), some (vi a1), none], [vi (-1)], (Wd S L F G h))) (by decide) [0, 0] rfl ⟨trivial, ⟨(by decide : R32 0), (by decide : (0 : Int) = (0 : Int))⟩⟩ ?_
    exact wp.fin (v := some (vi (-1))) (by decide) am_m170 rfl ⟨_, rfl, Or.inl rfl, rfl⟩ H
  · rw [if_neg c3] at H
    refine pt112 (s' := (10, [some (vj a1), none, some (vj 0), none, some (vj ((F 298 1) - 1)), none], [vi (y_cmp a1 ((F 298 1) - 1))], (Wd S L F G h))) (by decide) [0, 0, 0, 0] rfl ⟨⟨trivial, ⟨y_cmp_r32, (fun e => c3 (y_cmp_lt.mp e))⟩⟩, ⟨(r64 g1), (r64 g2)⟩⟩ ?_
    by_cases c4 : ((F 298 1) - 1) < a1
    · rw [if_pos c4] at H
      refine pt112 (s' := (18, [some (vj a1), none, some (vj 0), none, some (vj ((F 298 1) - 1)), none], [vi 0], (Wd S L F G h))) (by decide) [1, 0] rfl ⟨trivial, ⟨y_cmp_r32, (y_cmp_gt.mpr c4)⟩⟩ ?_
      refine wp.fin (v := some (vi 0)) (by decide) am_m112 rfl ⟨_, rfl, Or.inr ⟨rfl, Or.inl rfl⟩, rfl⟩ ?_
      show wp 7 142 (15, [some (vr 297), some (vi a1)], [vi 0], (Wd S L F G h)) _
      refine wp.fin (v := some (vi 0)) (by decide) am_m142 rfl ⟨_, rfl, Or.inr ⟨rfl, Or.inl rfl⟩, rfl⟩ ?_
      show wp 8 170 (5, [some (vr 297), some (vi a1), none], [vi 0], (Wd S L F G h)) _
      refine pt170 (s' := (9, [some (vr 297), some (vi a1), none], [vi (-1)], (Wd S L F G h))) (by decide) [0, 0] rfl ⟨trivial, ⟨(by decide : R32 0), (by decide : (0 : Int) = (0 : Int))⟩⟩ ?_
      exact wp.fin (v := some (vi (-1))) (by decide) am_m170 rfl ⟨_, rfl, Or.inl rfl, rfl⟩ H
    · rw [if_neg c4] at H
      refine pt112 (s' := (18, [some (vj a1), none, some (vj 0), none, some (vj ((F 298 1) - 1)), none], [vi 1], (Wd S L F G h))) (by decide) [0, 0, 0] rfl ⟨trivial, ⟨y_cmp_r32, (fun e => c4 (y_cmp_gt.mp e))⟩⟩ ?_
      refine wp.fin (v := some (vi 1)) (by decide) am_m112 rfl ⟨_, rfl, Or.inr ⟨rfl, Or.inr rfl⟩, rfl⟩ ?_
      show wp 7 142 (15, [some (vr 297), some (vi a1)], [vi 1], (Wd S L F G h)) _
      refine wp.fin (v := some (vi 1)) (by decide) am_m142 rfl ⟨_, rfl, Or.inr ⟨rfl, Or.inr rfl⟩, rfl⟩ ?_
      show wp 8 170 (5, [some (vr 297), some (vi a1), none], [vi 1], (Wd S L F G h)) _
      refine pt170 (s' := (11, [some (vr 297), some (vi a1), none], [vr 297], (Wd S L F G h))) (by decide) [1, 0] rfl ⟨trivial, ⟨(by decide : R32 1), (by decide : ¬ (1 : Int) = (0 : Int))⟩⟩ ?_
      refine wp.cl am_m170 rfl am_m155 6 [vr 297] [] rfl (Nat.le_of_ble_eq_true rfl) (Nat.le_of_ble_eq_true rfl) rfl (Nat.le_of_ble_eq_true rfl) rfl (Nat.le_of_ble_eq_true rfl) (Nat.le_of_ble_eq_true rfl) ⟨_, _, rfl, Nat.le_of_ble_eq_true rfl, rfl⟩ ?_
      refine wp.mono H ?_
      rintro v w1 ⟨F5, rfl, rfl, H⟩
      show wp 8 170 (14, [some (vr 297), some (vi a1), none], [], (Wd S L F5 G h)) _
      refine pt170 (s' := (15, [some (vr 297), some (vi a1), none], [vr 297], (Wd S L F5 G h))) (by decide) [0] rfl trivial ?_
      refine wp.cl am_m170 rfl am_m156 6 [vr 297] [] rfl (Nat.le_of_ble_eq_true rfl) (Nat.le_of_ble_eq_true rfl) rfl (Nat.le_of_ble_eq_true rfl) rfl (Nat.le_of_ble_eq_true rfl) (Nat.le_of_ble_eq_true rfl) ⟨_, _, rfl, Nat.le_of_ble_eq_true rfl, rfl⟩ ?_
      refine wp.mono H ?_
      rintro v w1 ⟨F6, rfl, rfl, H⟩
      show wp 8 170 (18, [some (vr 297), some (vi a1), none], [], (Wd S L F6 G h)) _
      refine pt170 (s' := (36, [some (vr 297), some (vi a1), some (vi (70 + (8 * a1)))], [], (Wd S L (am_up F6 298 1 ((F6 298 1) - 1)) G h))) (by decide) [0, 298, 0, 0, 0, 0, 0, 0, 0, 0, 0, 0, 0, 0] rfl ⟨⟨⟨trivial, ⟨Nat.le_of_ble_eq_true rfl, rfl, hh _ _ _ rfl⟩⟩, (ix ⟨Nat.le_of_ble_eq_true rfl, rfl⟩ (by decide : (0 : Int) ≤ 1 ∧ (1 : Int) < 134))⟩, (ix ⟨Nat.le_of_ble_eq_true rfl, rfl⟩ (by decide : (0 : Int) ≤ 1 ∧ (1 : Int) < 134))⟩ ?_
      exact wp.weak (a := [some (vr 297), none, some (vi (70 + (8 * a1)))]) ⟨rfl, rfl, trivial⟩ H
set_option maxRecDepth 100000 in
set_option maxHeartbeats 4000000 in
theorem T170_36 {S L : Nat} {F G : Nat → Nat → Int} {h : Nat → Nat → Option Nat} (hh : RfH h) {x2 : Int}  {Q : Option V2 → W2 → Prop}
    (H : (R32 x2 ∧
 R32 (70 + (8 * (F 298 1))) ∧
 (if (70 + (8 * (F 298 1))) ≤ x2 then
  Q (some (vi (F 298 1))) (Wd S L F G h)
 else
  ((0 ≤ (x2 + 8) ∧ (x2 + 8) < 134) ∧
  (0 ≤ x2 ∧ x2 < 134) ∧
  C170_36 (x2 + 1) (Wd S L (am_up F 298 x2.toNat (F 298 (x2 + 8).toNat)) G h) Q)))) : C170_36 x2 (Wd S L F G h) Q := by
  obtain ⟨g1, H⟩ := H
  obtain ⟨g2, H⟩ := H
  refine pt170 (s' := (49, [some (vr 297), none, some (vi x2)], [vi (70 + (8 * (F 298 1))), vi x2], (Wd S L F G h))) (by decide) [0, 0, 0, 0, 298, 0, 0, 0, 0] rfl ⟨⟨trivial, ⟨Nat.le_of_ble_eq_true rfl, rfl, hh _ _ _ rfl⟩⟩, (ix ⟨Nat.le_of_ble_eq_true rfl, rfl⟩ (by decide : (0 : Int) ≤ 1 ∧ (1 : Int) < 134))⟩ ?_
  by_cases c3 : (70 + (8 * (F 298 1))) ≤ x2
  · rw [if_pos c3] at H
    refine pt170 (s' := (79, [some (vr 297), none, some (vi x2)], [vi (F 298 1)], (Wd S L F G h))) (by decide) [1, 0, 298, 0, 0] rfl ⟨⟨⟨trivial, ⟨⟨g1, g2⟩, c3⟩⟩, ⟨Nat.le_of_ble_eq_true rfl, rfl, hh _ _ _ rfl⟩⟩, (ix ⟨Nat.le_of_ble_eq_true rfl, rfl⟩ (by decide : (0 : Int) ≤ 1 ∧ (1 : Int) < 134))⟩ ?_
    exact wp.fin (v := some (vi (F 298 1))) (by decide) am_m170 rfl ⟨_, rfl, Or.inl rfl, rfl⟩ H
  · rw [if_neg c3] at H
    obtain ⟨g4, H⟩ := H
    obtain ⟨g5, H⟩ := H
    refine pt170 (s' := (36, [some (vr 297), none, some (vi (x2 + 1))], [], (Wd S L (am_up F 298 x2.toNat (F 298 (x2 + 8).toNat)) G h))) (by decide) [0, 0, 298, 0, 0, 298, 0, 0, 0, 0, 0, 0, 0] rfl ⟨⟨⟨⟨⟨trivial, ⟨⟨g1, g2⟩, c3⟩⟩, ⟨Nat.le_of_ble_eq_true rfl, rfl, hh _ _ _ rfl⟩⟩, ⟨Nat.le_of_ble_eq_true rfl, rfl, hh _ _ _ rfl⟩⟩, (ix ⟨Nat.le_of_ble_eq_true rfl, rfl⟩ g4)⟩, (ix ⟨Nat.le_of_ble_eq_true rfl, rfl⟩ g5)⟩ ?_
    exact wp.weak (a := [some (vr 297), none, some (vi (x2 + 1))]) ⟨rfl, rfl, trivial⟩ H
set_option maxRecDepth 100000 in
set_option maxHeartbeats 4000000 in
theorem T171_0 {S L : Nat} {F G : Nat → Nat → Int} {h : Nat → Nat → Option Nat} (hh : RfH h) {a1 : Int}  {Q : Option V2 → W2 → Prop}
    (H : (R32 a1 ∧
 (if a1 < 32 then
  Q (some (vi (-1))) (Wd S L F G h)
 else
  (if 126 < a1 then
   Q (some (vi (-1))) (Wd S L F G h)
  else
   (R32 (F 297 7) ∧
   (if (F 297 7) = 90 then
    Q (some (vi (-3))) (Wd S L F G h)
   else
    ((0 ≤ (F 297 7) ∧ (F 297 7) < 90) ∧
    Q (some (vi ((F 297 7) + 1))) (Wd S L (am_up (am_up F 302 (F 297 7).toNat a1) 297 7 ((F 297 7) + 1)) G h)))))))) : C171_0 a1 (Wd S L F G h) Q := by
  obtain ⟨g1, H⟩ := H
  refine pt171 (s' := (8, [some (vr 297), some (vi a1)], [vj 126, vj 32, vj a1], (Wd S L F G h))) (by decide) [0, 0, 0, 0] rfl ⟨trivial, g1⟩ ?_
  refine wp.cl am_m171 rfl am_m112 6 [vj a1, vj 32, vj 126] [] rfl (Nat.le_of_ble_eq_true rfl) (Nat.le_of_ble_eq_true rfl) rfl (Nat.le_of_ble_eq_true rfl) rfl (Nat.le_of_ble_eq_true rfl) (Nat.le_of_ble_eq_true rfl) trivial ?_
  refine pt112 (s' := (3, [some (vj a1), none, some (vj 32), none, some (vj 126), none], [vi (y_cmp a1 32)], (Wd S L F G h))) (by decide) [0, 0, 0] rfl ⟨trivial, ⟨(r64 g1), (by decide : R64 32)⟩⟩ ?_
  by_cases c2 : a1 < 32
  · rw [if_pos c2] at H
    refine pt112 (s' := (18, [some (vj a1), none, some (vj 32), none, some (vj 126), none], [vi 0], (Wd S L F G h))) (by decide) [1, 0] rfl ⟨trivial, ⟨y_cmp_r32, (y_cmp_lt.mpr c2)⟩⟩ ?_
    refine wp.fin (v := some (vi 0)) (by decide) am_m112 rfl ⟨_, rfl, Or.inr ⟨rfl, Or.inl rfl⟩, rfl⟩ ?_
    show wp 7 171 (11, [some (vr 297), some (vi a1)], [vi 0], (Wd S L F G h)) _
    refine pt171 (s' := (15, [some (vr 297), some (vi a1)], [vi (-1)], (Wd S L F G h))) (by decide) [0, 0] rfl ⟨trivial, ⟨(by decide : R32 0), (by decide : (0 : Int) = (0 : Int))⟩⟩ ?_
    exact wp.fin (v := some (vi (-1))) (by decide) am_m171 rfl ⟨_, rfl, Or.inl rfl, rfl⟩ H
  · rw [if_neg c2] at H
    refine pt112 (s' := (10, [some (vj a1), none, some (vj 32), none, some (vj 126), none], [vi (y_cmp a1 126)], (Wd S L F G h))) (by decide) [0, 0, 0, 0] rfl ⟨⟨trivial, ⟨y_cmp_r32, (fun e => c2 (y_cmp_lt.mp e))⟩⟩, ⟨(r64 g1), (by decide : R64 126)⟩⟩ ?_
    by_cases c3 : 126 < a1
    · rw [if_pos c3] at H
      refine pt112 (s' := (18, [some (vj a1), none, some (vj 32), none, some (vj 126), none], [vi 0], (Wd S L F G h))) (by decide) [1, 0] rfl ⟨trivial, ⟨y_cmp_r32, (y_cmp_gt.mpr c3)⟩⟩ ?_
      refine wp.fin (v := some (vi 0)) (by decide) am_m112 rfl ⟨_, rfl, Or.inr ⟨rfl, Or.inl rfl⟩, rfl⟩ ?_
      show wp 7 171 (11, [some (vr 297), some (vi a1)], [vi 0], (Wd S L F G h)) _
      refine pt171 (s' := (15, [some (vr 297), some (vi a1)], [vi (-1)], (Wd S L F G h))) (by decide) [0, 0] rfl ⟨trivial, ⟨(by decide : R32 0), (by decide : (0 : Int) = (0 : Int))⟩⟩ ?_
      exact wp.fin (v := some (vi (-1))) (by decide) am_m171 rfl ⟨_, rfl, Or.inl rfl, rfl⟩ H
    · rw [if_neg c3] at H
      refine pt112 (s' := (18, [some (vj a1), none, some (vj 32), none, some (vj 126), none], [vi 1], (Wd S L F G h))) (by decide) [0, 0, 0] rfl ⟨trivial, ⟨y_cmp_r32, (fun e => c3 (y_cmp_gt.mp e))⟩⟩ ?_
      refine wp.fin (v := some (vi 1)) (by decide) am_m112 rfl ⟨_, rfl, Or.inr ⟨rfl, Or.inr rfl⟩, rfl⟩ ?_
      show wp 7 171 (11, [some (vr 297), some (vi a1)], [vi 1], (Wd S L F G h)) _
      obtain ⟨g4, H⟩ := H
      refine pt171 (s' := (22, [some (vr 297), some (vi a1)], [vi 90, vi (F 297 7)], (Wd S L F G h))) (by decide) [1, 0, 0, 0] rfl ⟨⟨trivial, ⟨(by decide : R32 1), (by decide : ¬ (1 : Int) = (0 : Int))⟩⟩, ⟨Nat.le_of_ble_eq_true rfl, rfl⟩⟩ ?_
      by_cases c5 : (F 297 7) = 90
      · rw [if_pos c5] at H
        refine pt171 (s' := (27, [some (vr 297), some (vi a1)], [vi (-3)], (Wd S L F G h))) (by decide) [0, 0] rfl ⟨trivial, ⟨⟨g4, (by decide : R32 90)⟩, c5⟩⟩ ?_
        exact wp.fin (v := some (vi (-3))) (by decide) am_m171 rfl ⟨_, rfl, Or.inl rfl, rfl⟩ H
      · rw [if_neg c5] at H
        obtain ⟨g6, H⟩ := H
        refine pt171 (s' := (52, [some (vr 297), some (vi a1)], [vi ((F 297 7) + 1)], (Wd S L (am_up (am_up F 302 (F 297 7).toNat a1) 297 7 ((F 297 7) + 1)) G h))) (by decide) [1, 0, 302, 0, 0, 0, 0, 0, 0, 0, 0, 0, 0, 0, 0] rfl ⟨⟨⟨⟨⟨⟨⟨trivial, ⟨⟨g4, (by decide : R32 90)⟩, c5⟩⟩, ⟨Nat.le_of_ble_eq_true rfl, rfl, hh _ _ _ rfl⟩⟩, ⟨Nat.le_of_ble_eq_true rfl, rfl⟩⟩, (ix ⟨Nat.le_of_ble_eq_true rfl, rfl⟩ g6)⟩, ⟨Nat.le_of_ble_eq_true rfl, rfl⟩⟩, ⟨Nat.le_of_ble_eq_true rfl, rfl, fun h => by cases h⟩⟩, ⟨Nat.le_of_ble_eq_true rfl, rfl⟩⟩ ?_
        exact wp.fin (v := some (vi ((F 297 7) + 1))) (by decide) am_m171 rfl ⟨_, rfl, Or.inl rfl, rfl⟩ H
set_option maxRecDepth 100000 in
set_option maxHeartbeats 4000000 in
theorem T172_0 {S L : Nat} {F G : Nat → Nat → Int} {h : Nat → Nat → Option Nat} (hh : RfH h)   {Q : Option V2 → W2 → Prop}
    (H : (R32 (F 297 22) ∧
 R32 (F 297 7) ∧
 (if (F 297 7) ≤ (F 297 22) then
  Q (some (vi 0)) (Wd S L F G h)
 else
  ((0 ≤ (F 297 22) ∧ (F 297 22) < 90) ∧
  R32 (F 302 (F 297 22).toNat) ∧
  (if (F 302 (F 297 22).toNat) = 32 then
   C172_0  (Wd S L (am_up F 297 22 ((F 297 22) + 1)) G h) Q
  else
   Q (some (vi (F 302 (F 297 22).toNat))) (Wd S L F G h)))))) : C172_0  (Wd S L F G h) Q := by
  obtain ⟨g1, H⟩ := H
  obtain ⟨g2, H⟩ := H
  refine pt172 (s' := (8, [some (vr 297)], [vi (F 297 7), vi (F 297 22)], (Wd S L F G h))) (by decide) [0, 0, 0, 0] rfl ⟨⟨trivial, ⟨Nat.le_of_ble_eq_true rfl, rfl⟩⟩, ⟨Nat.le_of_ble_eq_true rfl, rfl⟩⟩ ?_
  by_cases c3 : (F 297 7) ≤ (F 297 22)
  · rw [if_pos c3] at H
    refine pt172 (s' := (39, [some (vr 297)], [vr 297], (Wd S L F G h))) (by decide) [1, 0] rfl ⟨trivial, ⟨⟨g1, g2⟩, c3⟩⟩ ?_
    refine wp.cl am_m172 rfl am_m173 6 [vr 297] [] rfl (Nat.le_of_ble_eq_true rfl) (Nat.le_of_ble_eq_true rfl) rfl (Nat.le_of_ble_eq_true rfl) rfl (Nat.le_of_ble_eq_true rfl) (Nat.le_of_ble_eq_true rfl) ⟨_, _, rfl, Nat.le_of_ble_eq_true rfl, rfl⟩ ?_
    refine pt173 (s' := (24, [some (vr 297)], [vi 0], (Wd S L F G h))) (by decide) [0, 0, 0, 0, 1, 0] rfl ⟨⟨⟨trivial, ⟨Nat.le_of_ble_eq_true rfl, rfl⟩⟩, ⟨Nat.le_of_ble_eq_true rfl, rfl⟩⟩, ⟨⟨g1, g2⟩, c3⟩⟩ ?_
    refine wp.fin (v := some (vi 0)) (by decide) am_m173 rfl ⟨_, rfl, Or.inl rfl, rfl⟩ ?_
    show wp 7 172 (42, [some (vr 297)], [vi 0], (Wd S L F G h)) _
    exact wp.fin (v := some (vi 0)) (by decide) am_m172 rfl ⟨_, rfl, Or.inl rfl, rfl⟩ H
  · rw [if_neg c3] at H
    obtain ⟨g4, H⟩ := H
    obtain ⟨g5, H⟩ := H
    refine pt172 (s' := (22, [some (vr 297)], [vi 32, vi (F 302 (F 297 22).toNat)], (Wd S L F G h))) (by decide) [0, 0, 302, 0, 0, 0, 0] rfl ⟨⟨⟨⟨trivial, ⟨⟨g1, g2⟩, c3⟩⟩, ⟨Nat.le_of_ble_eq_true rfl, rfl, hh _ _ _ rfl⟩⟩, ⟨Nat.le_of_ble_eq_true rfl, rfl⟩⟩, (ix ⟨Nat.le_of_ble_eq_true rfl, rfl⟩ g4)⟩ ?_
    by_cases c6 : (F 302 (F 297 22).toNat) = 32
    · rw [if_pos c6] at H
      refine pt172 (s' := (0, [some (vr 297)], [], (Wd S L (am_up F 297 22 ((F 297 22) + 1)) G h))) (by decide) [0, 0, 0, 0, 0, 0, 0, 0] rfl ⟨⟨⟨trivial, ⟨⟨g5, (by decide : R32 32)⟩, c6⟩⟩, ⟨Nat.le_of_ble_eq_true rfl, rfl⟩⟩, ⟨Nat.le_of_ble_eq_true rfl, rfl, fun h => by cases h⟩⟩ ?_
      exact wp.weak (a := [some (vr 297)]) ⟨rfl, trivial⟩ H
    · rw [if_neg c6] at H
      refine pt172 (s' := (39, [some (vr 297)], [vr 297], (Wd S L F G h))) (by decide) [1, 0] rfl ⟨trivial, ⟨⟨g5, (by decide : R32 32)⟩, c6⟩⟩ ?_
      refine wp.cl am_m172 rfl am_m173 6 [vr 297] [] rfl (Nat.le_of_ble_eq_true rfl) (Nat.le_of_ble_eq_true rfl) rfl (Nat.le_of_ble_eq_true rfl) rfl (Nat.le_of_ble_eq_true rfl) (Nat.le_of_ble_eq_true rfl) ⟨_, _, rfl, Nat.le_of_ble_eq_true rfl, rfl⟩ ?_
      refine pt173 (s' := (24, [some (vr 297)], [vi (F 302 (F 297 22).toNat)], (Wd S L F G h))) (by decide) [0, 0, 0, 0, 0, 0, 302, 0, 0, 0, 0] rfl ⟨⟨⟨⟨⟨⟨trivial, ⟨Nat.le_of_ble_eq_true rfl, rfl⟩⟩, ⟨Nat.le_of_ble_eq_true rfl, rfl⟩⟩, ⟨⟨g1, g2⟩, c3⟩⟩, ⟨Nat.le_of_ble_eq_true rfl, rfl, hh _ _ _ rfl⟩⟩, ⟨Nat.le_of_ble_eq_true rfl, rfl⟩⟩, (ix ⟨Nat.le_of_ble_eq_true rfl, rfl⟩ g4)⟩ ?_
      refine wp.fin (v := some (vi (F 302 (F 297 22).toNat))) (by decide) am_m173 rfl ⟨_, rfl, Or.inl rfl, rfl⟩ ?_
      show wp 7 172 (42, [some (vr 297)], [vi (F 302 (F 297 22).toNat)], (Wd S L F G h)) _
      exact wp.fin (v := some (vi (F 302 (F 297 22).toNat))) (by decide) am_m172 rfl ⟨_, rfl, Or.inl rfl, rfl⟩ H
set_option maxRecDepth 100000 in
set_option maxHeartbeats 4000000 in
theorem T174_0 {S L : Nat} {F G : Nat → Nat → Int} {h : Nat → Nat → Option Nat} (hh : RfH h) {a1 : Int}  {Q : Option V2 → W2 → Prop}
    (H : (R32 (F 297 23) ∧
 (if (F 297 23) = 0 then
  (R32 a1 ∧
  (if a1 = 0 then
   Q (none) (Wd S L (am_up (am_up F 297 23 1) 297 22 ((F 297 22) + 0)) G h)
  else
   Q (none) (Wd S L (am_up (am_up F 297 23 0) 297 22 ((F 297 22) + 1)) G h)))
 else
  Q (none) (Wd S L (am_up (am_up F 297 23 1) 297 22 ((F 297 22) + 0)) G h)))) : C174_0 a1 (Wd S L F G h) Q := by
  obtain ⟨g1, H⟩ := H
  refine pt174 (s' := (5, [some (vr 297), some (vi a1)], [vi (F 297 23), vr 297], (Wd S L F G h))) (by decide) [0, 0, 0] rfl ⟨trivial, ⟨Nat.le_of_ble_eq_true rfl, rfl⟩⟩ ?_
  by_cases c2 : (F 297 23) = 0
  · rw [if_pos c2] at H
    obtain ⟨g3, H⟩ := H
    refine pt174 (s' := (9, [some (vr 297), some (vi a1)], [vi a1, vr 297], (Wd S L F G h))) (by decide) [0, 0] rfl ⟨trivial, ⟨g1, c2⟩⟩ ?_
    by_cases c4 : a1 = 0
    · rw [if_pos c4] at H
      refine pt174 (s' := (41, [some (vr 297), some (vi a1)], [], (Wd S L (am_up (am_up F 297 23 1) 297 22 ((F 297 22) + 0)) G h))) (by decide) [0, 0, 0, 0, 0, 0, 0, 0, 0, 0, 0, 0, 0, 0] rfl ⟨⟨⟨⟨⟨⟨trivial, ⟨g3, c4⟩⟩, ⟨Nat.le_of_ble_eq_true rfl, rfl, fun _ => Or.inr rfl⟩⟩, ⟨Nat.le_of_ble_eq_true rfl, rfl⟩⟩, ⟨Nat.le_of_ble_eq_true rfl, rfl⟩⟩, ⟨(by decide : R32 1), (by decide : ¬ (1 : Int) = (0 : Int))⟩⟩, ⟨Nat.le_of_ble_eq_true rfl, rfl, fun h => by cases h⟩⟩ ?_
      exact wp.fin (v := none) (by decide) am_m174 rfl ⟨rfl, rfl, rfl⟩ H
    · rw [if_neg c4] at H
      refine pt174 (s' := (41, [some (vr 297), some (vi a1)], [], (Wd S L (am_up (am_up F 297 23 0) 297 22 ((F 297 22) + 1)) G h))) (by decide) [1, 0, 0, 0, 0, 0, 0, 0, 1, 0, 0, 0] rfl ⟨⟨⟨⟨⟨⟨trivial, ⟨g3, c4⟩⟩, ⟨Nat.le_of_ble_eq_true rfl, rfl, fun _ => Or.inl rfl⟩⟩, ⟨Nat.le_of_ble_eq_true rfl, rfl⟩⟩, ⟨Nat.le_of_ble_eq_true rfl, rfl⟩⟩, ⟨(by decide : R32 0), (by decide : (0 : Int) = (0 : Int))⟩⟩, ⟨Nat.le_of_ble_eq_true rfl, rfl, fun h => by cases h⟩⟩ ?_
      exact wp.fin (v := none) (by decide) am_m174 rfl ⟨rfl, rfl, rfl⟩ H
  · rw [if_neg c2] at H
    refine pt174 (s' := (41, [some (vr 297), some (vi a1)], [], (Wd S L (am_up (am_up F 297 23 1) 297 22 ((F 297 22) + 0)) G h))) (by decide) [1, 0, 0, 0, 0, 0, 0, 0, 0, 0, 0, 0, 0, 0] rfl ⟨⟨⟨⟨⟨⟨trivial, ⟨g1, c2⟩⟩, ⟨Nat.le_of_ble_eq_true rfl, rfl, fun _ => Or.inr rfl⟩⟩, ⟨Nat.le_of_ble_eq_true rfl, rfl⟩⟩, ⟨Nat.le_of_ble_eq_true rfl, rfl⟩⟩, ⟨(by decide : R32 1), (by decide : ¬ (1 : Int) = (0 : Int))⟩⟩, ⟨Nat.le_of_ble_eq_true rfl, rfl, fun h => by cases h⟩⟩ ?_
    exact wp.fin (v := none) (by decide) am_m174 rfl ⟨rfl, rfl, rfl⟩ H
set_option maxRecDepth 100000 in
set_option maxHeartbeats 4000000 in
theorem T175_0 {S L : Nat} {F G : Nat → Nat → Int} {h : Nat → Nat → Option Nat} (hh : RfH h) {a1 : Int} {a2 : Int}  {Q : Option V2 → W2 → Prop}
    (H : C172_0  (Wd S L F G h) (fun v w1 => ∃ (v1 : Int) (F2 : Nat → Nat → Int), v = some (vi v1) ∧ w1 = (Wd S L F2 G h) ∧
  (R32 (v1 - 48) ∧
  R32 a1 ∧
  R32 a2 ∧
  (if (v1 - 48) < a1 then
   C174_0 0 (Wd S L (am_up F2 297 24 (v1 - 48)) G h) (fun v w1 => ∃ (F7 : Nat → Nat → Int), v = none ∧ w1 = (Wd S L F7 G h) ∧
    Q (none) (Wd S L F7 G h))
  else
   (if a2 < (v1 - 48) then
    C174_0 0 (Wd S L (am_up F2 297 24 (v1 - 48)) G h) (fun v w1 => ∃ (F9 : Nat → Nat → Int), v = none ∧ w1 = (Wd S L F9 G h) ∧
     Q (none) (Wd S L F9 G h))
   else
    C174_0 1 (Wd S L (am_up F2 297 24 (v1 - 48)) G h) (fun v w1 => ∃ (F10 : Nat → Nat → Int), v = none ∧ w1 = (Wd S L F10 G h) ∧
     Q (none) (Wd S L F10 G h))))))) : C175_0 a1 a2 (Wd S L F G h) Q := by
  refine pt175 (s' := (2, [some (vr 297), some (vi a1), some (vi a2)], [vr 297, vr 297], (Wd S L F G h))) (by decide) [0, 0] rfl trivial ?_
  refine wp.cl am_m175 rfl am_m172 7 [vr 297] [vr 297] rfl (Nat.le_of_ble_eq_true rfl) (Nat.le_of_ble_eq_true rfl) rfl (Nat.le_of_ble_eq_true rfl) rfl (Nat.le_of_ble_eq_true rfl) (Nat.le_of_ble_eq_true rfl) ⟨_, _, rfl, Nat.le_of_ble_eq_true rfl, rfl⟩ ?_
  refine wp.mono H ?_
  rintro v w1 ⟨v1, F2, rfl, rfl, H⟩
  show wp 8 175 (5, [some (vr 297), some (vi a1), some (vi a2)], [vi v1, vr 297], (Wd S L F2 G h)) _
  obtain ⟨g3, H⟩ := H
  obtain ⟨g4, H⟩ := H
  obtain ⟨g5, H⟩ := H
  refine pt175 (s' := (21, [some (vr 297), some (vi a1), some (vi a2)], [vj a2, vj a1, vj (v1 - 48), vr 297], (Wd S L (am_up F2 297 24 (v1 - 48)) G h))) (by decide) [0, 0, 0, 0, 0, 0, 0, 0, 0, 0, 0] rfl ⟨⟨⟨⟨⟨trivial, ⟨Nat.le_of_ble_eq_true rfl, rfl, fun h => by cases h⟩⟩, ⟨Nat.le_of_ble_eq_true rfl, rfl⟩⟩, g3⟩, g4⟩, g5⟩ ?_
  refine wp.cl am_m175 rfl am_m112 6 [vj (v1 - 48), vj a1, vj a2] [vr 297] rfl (Nat.le_of_ble_eq_true rfl) (Nat.le_of_ble_eq_true rfl) rfl (Nat.le_of_ble_eq_true rfl) rfl (Nat.le_of_ble_eq_true rfl) (Nat.le_of_ble_eq_true rfl) trivial ?_
  refine pt112 (s' := (3, [some (vj (v1 - 48)), none, some (vj a1), none, some (vj a2), none], [vi (y_cmp (v1 - 48) a1)], (Wd S L (am_up F2 297 24 (v1 - 48)) G h))) (by decide) [0, 0, 0] rfl ⟨trivial, ⟨(r64 g3), (r64 g4)⟩⟩ ?_
  by_cases c6 : (v1 - 48) < a1
  · rw [if_pos c6] at H
    refine pt112 (s' := (18, [some (vj (v1 - 48)), none, some (vj a1), none, some (vj a2), none], [vi 0], (Wd S L (am_up F2 297 24 (v1 - 48)) G h))) (by decide) [1, 0] rfl ⟨trivial, ⟨y_cmp_r32, (y_cmp_lt.mpr c6)⟩⟩ ?_
    refine wp.fin (v := some (vi 0)) (by decide) am_m112 rfl ⟨_, rfl, Or.inr ⟨rfl, Or.inl rfl⟩, rfl⟩ ?_
    show wp 8 175 (24, [some (vr 297), some (vi a1), some (vi a2)], [vi 0, vr 297], (Wd S L (am_up F2 297 24 (v1 - 48)) G h)) _
    refine wp.cl am_m175 rfl am_m174 6 [vr 297, vi 0] [] rfl (Nat.le_of_ble_eq_true rfl) (Nat.le_of_ble_eq_true rfl) rfl (Nat.le_of_ble_eq_true rfl) rfl (Nat.le_of_ble_eq_true rfl) (Nat.le_of_ble_eq_true rfl) ⟨_, _, rfl, Nat.le_of_ble_eq_true rfl, rfl⟩ ?_
    refine wp.mono H ?_
    rintro v w1 ⟨F7, rfl, rfl, H⟩
    show wp 8 175 (27, [some (vr 297), some (vi a1), some (vi a2)], [], (Wd S L F7 G h)) _
    exact wp.fin (v := none) (by decide) am_m175 rfl ⟨rfl, rfl, rfl⟩ H
  · rw [if_neg c6] at H
    refine pt112 (s' := (10, [some (vj (v1 - 48)), none, some (vj a1), none, some (vj a2), none], [vi (y_cmp (v1 - 48) a2)], (Wd S L (am_up F2 297 24 (v1 - 48)) G h))) (by decide) [0, 0, 0, 0] rfl ⟨⟨trivial, ⟨y_cmp_r32, (fun e => c6 (y_cmp_lt.mp e))⟩⟩, ⟨(r64 g3), (r64 g5)⟩⟩ ?_
    by_cases c8 : a2 < (v1 - 48)
    · rw [if_pos c8] at H
      refine pt112 (s' := (18, [some (vj (v1 - 48)), none, some (vj a1), none, some (vj a2), none], [vi 0], (Wd S L (am_up F2 297 24 (v1 - 48)) G h))) (by decide) [1, 0] rfl ⟨trivial, ⟨y_cmp_r32, (y_cmp_gt.mpr c8)⟩⟩ ?_
      refine wp.fin (v := some (vi 0)) (by decide) am_m112 rfl ⟨_, rfl, Or.inr ⟨rfl, Or.inl rfl⟩, rfl⟩ ?_
      show wp 8 175 (24, [some (vr 297), some (vi a1), some (vi a2)], [vi 0, vr 297], (Wd S L (am_up F2 297 24 (v1 - 48)) G h)) _
      refine wp.cl am_m175 rfl am_m174 6 [vr 297, vi 0] [] rfl (Nat.le_of_ble_eq_true rfl) (Nat.le_of_ble_eq_true rfl) rfl (Nat.le_of_ble_eq_true rfl) rfl (Nat.le_of_ble_eq_true rfl) (Nat.le_of_ble_eq_true rfl) ⟨_, _, rfl, Nat.le_of_ble_eq_true rfl, rfl⟩ ?_
      refine wp.mono H ?_
      rintro v w1 ⟨F9, rfl, rfl, H⟩
      show wp 8 175 (27, [some (vr 297), some (vi a1), some (vi a2)], [], (Wd S L F9 G h)) _
      exact wp.fin (v := none) (by decide) am_m175 rfl ⟨rfl, rfl, rfl⟩ H
    · rw [if_neg c8] at H
      refine pt112 (s' := (18, [some (vj (v1 - 48)), none, some (vj a1), none, some (vj a2), none], [vi 1], (Wd S L (am_up F2 297 24 (v1 - 48)) G h))) (by decide) [0, 0, 0] rfl ⟨trivial, ⟨y_cmp_r32, (fun e => c8 (y_cmp_gt.mp e))⟩⟩ ?_
      refine wp.fin (v := some (vi 1)) (by decide) am_m112 rfl ⟨_, rfl, Or.inr ⟨rfl, Or.inr rfl⟩, rfl⟩ ?_
      show wp 8 175 (24, [some (vr 297), some (vi a1), some (vi a2)], [vi 1, vr 297], (Wd S L (am_up F2 297 24 (v1 - 48)) G h)) _
      refine wp.cl am_m175 rfl am_m174 6 [vr 297, vi 1] [] rfl (Nat.le_of_ble_eq_true rfl) (Nat.le_of_ble_eq_true rfl) rfl (Nat.le_of_ble_eq_true rfl) rfl (Nat.le_of_ble_eq_true rfl) (Nat.le_of_ble_eq_true rfl) ⟨_, _, rfl, Nat.le_of_ble_eq_true rfl, rfl⟩ ?_
      refine wp.mono H ?_
      rintro v w1 ⟨F10, rfl, rfl, H⟩
      show wp 8 175 (27, [some (vr 297), some (vi a1), some (vi a2)], [], (Wd S L F10 G h)) _
      exact wp.fin (v := none) (by decide) am_m175 rfl ⟨rfl, rfl, rfl⟩ H
