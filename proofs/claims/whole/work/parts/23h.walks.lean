/-! the methods walked, by program (wip/whole/sym.py) -/
set_option maxRecDepth 100000 in
set_option maxHeartbeats 4000000 in
theorem T198_0 {S L : Nat} {F G : Nat → Nat → Int} {h : Nat → Nat → Option Nat} (hh : RfH h) {a1 : Int} {a2 : Int} {a3 : Int} {a4 : Int}  {Q : Option V2 → W2 → Prop}
    (H : (R32 a1 ∧
 (if a1 < 0 then
  Q (some (vi (-1))) (Wd S L F G h)
 else
  (if 3 < a1 then
   Q (some (vi (-1))) (Wd S L F G h)
  else
   (R32 a2 ∧
   (if a2 < 0 then
    Q (some (vi (-1))) (Wd S L F G h)
   else
    (if 3 < a2 then
     Q (some (vi (-1))) (Wd S L F G h)
    else
     C193_0 a1 a2 a3 1 (Wd S L F G h) (fun v w1 => ∃ (v7 : Int), v = some (vi v7) ∧ w1 = (Wd S L F G h) ∧
      (R32 v7 ∧
      (if 0 ≤ v7 then
       C192_0 a2 a4 (Wd S L F G h) (fun v w1 => ∃ (v10 : Int), v = some (vj v10) ∧ w1 = (Wd S L F G h) ∧
        ((0 ≤ ((24 * a1) + a3) ∧ ((24 * a1) + a3) < 96) ∧
        Q (some (vi 1)) (Wd S L F (am_up G 305 ((24 * a1) + a3).toNat v10) h)))
      else
       Q (some (vi v7)) (Wd S L F G h))))))))))) : C198_0 a1 a2 a3 a4 (Wd S L F G h) Q := by
  refine pt198 (s' := (1, [some (vr 297), some (vi a1), some (vi a2), some (vi a3), some (vj a4), none, none], [vi a1], (Wd S L F G h))) (by decide) [0] rfl trivial ?_
  refine wp.cl am_m198 rfl am_m191 7 [vi a1] [] rfl (Nat.le_of_ble_eq_true rfl) (Nat.le_of_ble_eq_true rfl) rfl (Nat.le_of_ble_eq_true rfl) rfl (Nat.le_of_ble_eq_true rfl) (Nat.le_of_ble_eq_true rfl) trivial ?_
  obtain ⟨g1, H⟩ := H
  refine pt191 (s' := (6, [some (vi a1)], [vj 3, vj 0, vj a1], (Wd S L F G h))) (by decide) [0, 0, 0, 0] rfl ⟨trivial, g1⟩ ?_
  refine wp.cl am_m191 rfl am_m112 6 [vj a1, vj 0, vj 3] [] rfl (Nat.le_of_ble_eq_true rfl) (Nat.le_of_ble_eq_true rfl) rfl (Nat.le_of_ble_eq_true rfl) rfl (Nat.le_of_ble_eq_true rfl) (Nat.le_of_ble_eq_true rfl) trivial ?_
  refine pt112 (s' := (3, [some (vj a1), none, some (vj 0), none, some (vj 3), none], [vi (y_cmp a1 0)], (Wd S L F G h))) (by decide) [0, 0, 0] rfl ⟨trivial, ⟨(r64 g1), (by decide : R64 0)⟩⟩ ?_
  by_cases c2 : a1 < 0
  · rw [if_pos c2] at H
    refine pt112 (s' := (18, [some (vj a1), none, some (vj 0), none, some (vj 3), none], [vi 0], (Wd S L F G h))) (by decide) [1, 0] rfl ⟨trivial, ⟨y_cmp_r32, (y_cmp_lt.mpr c2)⟩⟩ ?_
    refine wp.fin (v := some (vi 0)) (by decide) am_m112 rfl ⟨_, rfl, Or.inr ⟨rfl, Or.inl rfl⟩, rfl⟩ ?_
    show wp 7 191 (9, [some (vi a1)], [vi 0], (Wd S L F G h)) _
    refine wp.fin (v := some (vi 0)) (by decide) am_m191 rfl ⟨_, rfl, Or.inr ⟨rfl, Or.inl rfl⟩, rfl⟩ ?_
    show wp 8 198 (4, [some (vr 297), some (vi a1), some (vi a2), some (vi a3), some (vj a4), none, none], [vi 0], (Wd S L F G h)) _
    refine pt198 (s' := (20, [some (vr 297), some (vi a1), some (vi a2), some (vi a3), some (vj a4), none, none], [vi (-1)], (Wd S L F G h))) (by decide) [1, 0] rfl ⟨trivial, ⟨(by decide : R32 0), (by decide : (0 : Int) = (0 : Int))⟩⟩ ?_
    exact wp.fin (v := some (vi (-1))) (by decide) am_m198 rfl ⟨_, rfl, Or.inl rfl, rfl⟩ H
  · rw [if_neg c2] at H
    refine pt112 (s' := (10, [some (vj a1), none, some (vj 0), none, some (vj 3), none], [vi (y_cmp a1 3)], (Wd S L F G h))) (by decide) [0, 0, 0, 0] rfl ⟨⟨trivial, ⟨y_cmp_r32, (fun e => c2 (y_cmp_lt.mp e))⟩⟩, ⟨(r64 g1), (by decide : R64 3)⟩⟩ ?_
    by_cases c3 : 3 < a1
    · rw [if_pos c3] at H
      refine pt112 (s' := (18, [some (vj a1), none, some (vj 0), none, some (vj 3), none], [vi 0], (Wd S L F G h))) (by decide) [1, 0] rfl ⟨trivial, ⟨y_cmp_r32, (y_cmp_gt.mpr c3)⟩⟩ ?_
      refine wp.fin (v := some (vi 0)) (by decide) am_m112 rfl ⟨_, rfl, Or.inr ⟨rfl, Or.inl rfl⟩, rfl⟩ ?_
      show wp 7 191 (9, [some (vi a1)], [vi 0], (Wd S L F G h)) _
      refine wp.fin (v := some (vi 0)) (by decide) am_m191 rfl ⟨_, rfl, Or.inr ⟨rfl, Or.inl rfl⟩, rfl⟩ ?_
      show wp 8 198 (4, [some (vr 297), some (vi a1), some (vi a2), some (vi a3), some (vj a4), none, none], [vi 0], (Wd S L F G h)) _
      refine pt198 (s' := (20, [some (vr 297), some (vi a1), some (vi a2), some (vi a3), some (vj a4), none, none], [vi (-1)], (Wd S L F G h))) (by decide) [1, 0] rfl ⟨trivial, ⟨(by decide : R32 0), (by decide : (0 : Int) = (0 : Int))⟩⟩ ?_
      exact wp.fin (v := some (vi (-1))) (by decide) am_m198 rfl ⟨_, rfl, Or.inl rfl, rfl⟩ H
    · rw [if_neg c3] at H
      refine pt112 (s' := (18, [some (vj a1), none, some (vj 0), none, some (vj 3), none], [vi 1], (Wd S L F G h))) (by decide) [0, 0, 0] rfl ⟨trivial, ⟨y_cmp_r32, (fun e => c3 (y_cmp_gt.mp e))⟩⟩ ?_
      refine wp.fin (v := some (vi 1)) (by decide) am_m112 rfl ⟨_, rfl, Or.inr ⟨rfl, Or.inr rfl⟩, rfl⟩ ?_
      show wp 7 191 (9, [some (vi a1)], [vi 1], (Wd S L F G h)) _
      refine wp.fin (v := some (vi 1)) (by decide) am_m191 rfl ⟨_, rfl, Or.inr ⟨rfl, Or.inr rfl⟩, rfl⟩ ?_
      show wp 8 198 (4, [some (vr 297), some (vi a1), some (vi a2), some (vi a3), some (vj a4), none, none], [vi 1], (Wd S L F G h)) _
      obtain ⟨g4, H⟩ := H
      refine pt198 (s' := (13, [some (vr 297), some (vi a1), some (vi a2), some (vi a3), some (vj a4), none, none], [vj 3, vj 0, vj a2], (Wd S L F G h))) (by decide) [0, 0, 0, 0, 0] rfl ⟨⟨trivial, ⟨(by decide : R32 1), (by decide : ¬ (1 : Int) = (0 : Int))⟩⟩, g4⟩ ?_
      refine wp.cl am_m198 rfl am_m112 6 [vj a2, vj 0, vj 3] [] rfl (Nat.le_of_ble_eq_true rfl) (Nat.le_of_ble_eq_true rfl) rfl (Nat.le_of_ble_eq_true rfl) rfl (Nat.le_of_ble_eq_true rfl) (Nat.le_of_ble_eq_true rfl) trivial ?_
      refine pt112 (s' := (3, [some (vj a2), none, some (vj 0), none, some (vj 3), none], [vi (y_cmp a2 0)], (Wd S L F G h))) (by decide) [0, 0, 0] rfl ⟨trivial, ⟨(r64 g4), (by decide : R64 0)⟩⟩ ?_
      by_cases c5 : a2 < 0
      · rw [if_pos c5] at H
        refine pt112 (s' := (18, [some (vj a2), none, some (vj 0), none, some (vj 3), none], [vi 0], (Wd S L F G h))) (by decide) [1, 0] rfl ⟨trivial, ⟨y_cmp_r32, (y_cmp_lt.mpr c5)⟩⟩ ?_
        refine wp.fin (v := some (vi 0)) (by decide) am_m112 rfl ⟨_, rfl, Or.inr ⟨rfl, Or.inl rfl⟩, rfl⟩ ?_
        show wp 8 198 (16, [some (vr 297), some (vi a1), some (vi a2), some (vi a3), some (vj a4), none, none], [vi 0], (Wd S L F G h)) _
        refine pt198 (s' := (20, [some (vr 297), some (vi a1), some (vi a2), some (vi a3), some (vj a4), none, none], [vi (-1)], (Wd S L F G h))) (by decide) [0, 0] rfl ⟨trivial, ⟨(by decide : R32 0), (by decide : (0 : Int) = (0 : Int))⟩⟩ ?_
        exact wp.fin (v := some (vi (-1))) (by decide) am_m198 rfl ⟨_, rfl, Or.inl rfl, rfl⟩ H
      · rw [if_neg c5] at H
        refine pt112 (s' := (10, [some (vj a2), none, some (vj 0), none, some (vj 3), none], [vi (y_cmp a2 3)], (Wd S L F G h))) (by decide) [0, 0, 0, 0] rfl ⟨⟨trivial, ⟨y_cmp_r32, (fun e => c5 (y_cmp_lt.mp e))⟩⟩, ⟨(r64 g4), (by decide : R64 3)⟩⟩ ?_
        by_cases c6 : 3 < a2
        · rw [if_pos c6] at H
          refine pt112 (s' := (18, [some (vj a2), none, some (vj 0), none, some (vj 3), none], [vi 0], (Wd S L F G h))) (by decide) [1, 0] rfl ⟨trivial, ⟨y_cmp_r32, (y_cmp_gt.mpr c6)⟩⟩ ?_
          refine wp.fin (v := some (vi 0)) (by decide) am_m112 rfl ⟨_, rfl, Or.inr ⟨rfl, Or.inl rfl⟩, rfl⟩ ?_
          show wp 8 198 (16, [some (vr 297), some (vi a1), some (vi a2), some (vi a3), some (vj a4), none, none], [vi 0], (Wd S L F G h)) _
          refine pt198 (s' := (20, [some (vr 297), some (vi a1), some (vi a2), some (vi a3), some (vj a4), none, none], [vi (-1)], (Wd S L F G h))) (by decide) [0, 0] rfl ⟨trivial, ⟨(by decide : R32 0), (by decide : (0 : Int) = (0 : Int))⟩⟩ ?_
          exact wp.fin (v := some (vi (-1))) (by decide) am_m198 rfl ⟨_, rfl, Or.inl rfl, rfl⟩ H
        · rw [if_neg c6] at H
          refine pt112 (s' := (18, [some (vj a2), none, some (vj 0), none, some (vj 3), none], [vi 1], (Wd S L F G h))) (by decide) [0, 0, 0] rfl ⟨trivial, ⟨y_cmp_r32, (fun e => c6 (y_cmp_gt.mp e))⟩⟩ ?_
          refine wp.fin (v := some (vi 1)) (by decide) am_m112 rfl ⟨_, rfl, Or.inr ⟨rfl, Or.inr rfl⟩, rfl⟩ ?_
          show wp 8 198 (16, [some (vr 297), some (vi a1), some (vi a2), some (vi a3), some (vj a4), none, none], [vi 1], (Wd S L F G h)) _
          refine pt198 (s' := (26, [some (vr 297), some (vi a1), some (vi a2), some (vi a3), some (vj a4), none, none], [vi 1, vi a3, vi a2, vi a1, vr 297], (Wd S L F G h))) (by decide) [1, 0, 0, 0, 0, 0] rfl ⟨trivial, ⟨(by decide : R32 1), (by decide : ¬ (1 : Int) = (0 : Int))⟩⟩ ?_
          refine wp.cl am_m198 rfl am_m193 6 [vr 297, vi a1, vi a2, vi a3, vi 1] [] rfl (Nat.le_of_ble_eq_true rfl) (Nat.le_of_ble_eq_true rfl) rfl (Nat.le_of_ble_eq_true rfl) rfl (Nat.le_of_ble_eq_true rfl) (Nat.le_of_ble_eq_true rfl) ⟨_, _, rfl, Nat.le_of_ble_eq_true rfl, rfl⟩ ?_
          refine wp.mono H ?_
          rintro v w1 ⟨v7, rfl, rfl, H⟩
          show wp 8 198 (29, [some (vr 297), some (vi a1), some (vi a2), some (vi a3), some (vj a4), none, none], [vi v7], (Wd S L F G h)) _
          obtain ⟨g8, H⟩ := H
          refine pt198 (s' := (33, [some (vr 297), some (vi a1), some (vi a2), some (vi a3), some (vj a4), none, some (vi v7)], [vi v7], (Wd S L F G h))) (by decide) [0, 0] rfl trivial ?_
          by_cases c9 : 0 ≤ v7
          · rw [if_pos c9] at H
            refine pt198 (s' := (52, [some (vr 297), some (vi a1), some (vi a2), some (vi a3), some (vj a4), none, some (vi v7)], [vj a4, vi a2, vi ((24 * a1) + a3), vr 305], (Wd S L F G h))) (by decide) [1, 0, 305, 0, 0, 0, 0, 0, 0, 0] rfl ⟨⟨trivial, ⟨g8, c9⟩⟩, ⟨Nat.le_of_ble_eq_true rfl, rfl, hh _ _ _ rfl⟩⟩ ?_
            refine wp.cl am_m198 rfl am_m192 6 [vi a2, vj a4] [vi ((24 * a1) + a3), vr 305] rfl (Nat.le_of_ble_eq_true rfl) (Nat.le_of_ble_eq_true rfl) rfl (Nat.le_of_ble_eq_true rfl) rfl (Nat.le_of_ble_eq_true rfl) (Nat.le_of_ble_eq_true rfl) trivial ?_
            refine wp.mono H ?_
            rintro v w1 ⟨v10, rfl, rfl, H⟩
            show wp 8 198 (55, [some (vr 297), some (vi a1), some (vi a2), some (vi a3), some (vj a4), none, some (vi v7)], [vj v10, vi ((24 * a1) + a3), vr 305], (Wd S L F G h)) _
            obtain ⟨g11, H⟩ := H
            refine pt198 (s' := (57, [some (vr 297), some (vi a1), some (vi a2), some (vi a3), some (vj a4), none, some (vi v7)], [vi 1], (Wd S L F (am_up G 305 ((24 * a1) + a3).toNat v10) h))) (by decide) [0, 0] rfl ⟨trivial, (ix ⟨Nat.le_of_ble_eq_true rfl, rfl⟩ g11)⟩ ?_
            exact wp.fin (v := some (vi 1)) (by decide) am_m198 rfl ⟨_, rfl, Or.inl rfl, rfl⟩ H
          · rw [if_neg c9] at H
            refine pt198 (s' := (38, [some (vr 297), some (vi a1), some (vi a2), some (vi a3), some (vj a4), none, some (vi v7)], [vi v7], (Wd S L F G h))) (by decide) [0, 0] rfl ⟨trivial, ⟨g8, c9⟩⟩ ?_
            exact wp.fin (v := some (vi v7)) (by decide) am_m198 rfl ⟨_, rfl, Or.inl rfl, rfl⟩ H
set_option maxRecDepth 100000 in
set_option maxHeartbeats 4000000 in
theorem T199_0 {S L : Nat} {F G : Nat → Nat → Int} {h : Nat → Nat → Option Nat} (hh : RfH h) {a1 : Int} {a2 : Int} {a3 : Int} {a4 : Int} {a5 : Int}  {Q : Option V2 → W2 → Prop}
    (H : (R32 a1 ∧
 (if a1 < 0 then
  Q (some (vi (-1))) (Wd S L F G h)
 else
  (if 3 < a1 then
   Q (some (vi (-1))) (Wd S L F G h)
  else
   (R32 a3 ∧
   (if a3 < 0 then
    Q (some (vi (-1))) (Wd S L F G h)
   else
    (if 3 < a3 then
     Q (some (vi (-1))) (Wd S L F G h)
    else
     ((0 ≤ a1 ∧ a1 < 4) ∧
     R32 (F 303 a1.toNat) ∧
     (if (F 303 a1.toNat) < 0 then
      Q (some (vi (-11))) (Wd S L F G h)
     else
      ((0 ≤ a3 ∧ a3 < 4) ∧
      R32 (F 303 a3.toNat) ∧
      (if 0 ≤ (F 303 a3.toNat) then
       (if (F 303 a1.toNat) = (F 303 a3.toNat) then
        (R32 a5 ∧
        (if a5 < 0 then
         Q (some (vi (-13))) (Wd S L F G h)
        else
         (R32 a2 ∧
         (if a2 < 0 then
          Q (some (vi (-13))) (Wd S L F G h)
         else
          (R32 a4 ∧
          (if a4 < 0 then
           Q (some (vi (-13))) (Wd S L F G h)
          else
           (R32 ((F 304 a1.toNat) - a2) ∧
           (if ((F 304 a1.toNat) - a2) < a5 then
            Q (some (vi (-13))) (Wd S L F G h)
           else
            (R32 ((F 304 a3.toNat) - a4) ∧
            (if a5 ≤ ((F 304 a3.toNat) - a4) then
             C199_102 a1 a2 a3 a4 a5 0 (Wd S L F G h) Q
            else
             Q (some (vi (-13))) (Wd S L F G h)))))))))))
       else
        Q (some (vi (-12))) (Wd S L F G h))
      else
       Q (some (vi (-11))) (Wd S L F G h)))))))))))) : C199_0 a1 a2 a3 a4 a5 (Wd S L F G h) Q := by
  refine pt199 (s' := (1, [some (vr 297), some (vi a1), some (vi a2), some (vi a3), some (vi a4), some (vi a5), none], [vi a1], (Wd S L F G h))) (by decide) [0] rfl trivial ?_
  refine wp.cl am_m199 rfl am_m191 7 [vi a1] [] rfl (Nat.le_of_ble_eq_true rfl) (Nat.le_of_ble_eq_true rfl) rfl (Nat.le_of_ble_eq_true rfl) rfl (Nat.le_of_ble_eq_true rfl) (Nat.le_of_ble_eq_true rfl) trivial ?_
  obtain ⟨g1, H⟩ := H
  refine pt191 (s' := (6, [some (vi a1)], [vj 3, vj 0, vj a1], (Wd S L F G h))) (by decide) [0, 0, 0, 0] rfl ⟨trivial, g1⟩ ?_
  refine wp.cl am_m191 rfl am_m112 6 [vj a1, vj 0, vj 3] [] rfl (Nat.le_of_ble_eq_true rfl) (Nat.le_of_ble_eq_true rfl) rfl (Nat.le_of_ble_eq_true rfl) rfl (Nat.le_of_ble_eq_true rfl) (Nat.le_of_ble_eq_true rfl) trivial ?_
  refine pt112 (s' := (3, [some (vj a1), none, some (vj 0), none, some (vj 3), none], [vi (y_cmp a1 0)], (Wd S L F G h))) (by decide) [0, 0, 0] rfl ⟨trivial, ⟨(r64 g1), (by decide : R64 0)⟩⟩ ?_
  by_cases c2 : a1 < 0
  · rw [if_pos c2] at H
    refine pt112 (s' := (18, [some (vj a1), none, some (vj 0), none, some (vj 3), none], [vi 0], (Wd S L F G h))) (by decide) [1, 0] rfl ⟨trivial, ⟨y_cmp_r32, (y_cmp_lt.mpr c2)⟩⟩ ?_
    refine wp.fin (v := some (vi 0)) (by decide) am_m112 rfl ⟨_, rfl, Or.inr ⟨rfl, Or.inl rfl⟩, rfl⟩ ?_
    show wp 7 191 (9, [some (vi a1)], [vi 0], (Wd S L F G h)) _
    refine wp.fin (v := some (vi 0)) (by decide) am_m191 rfl ⟨_, rfl, Or.inr ⟨rfl, Or.inl rfl⟩, rfl⟩ ?_
    show wp 8 199 (4, [some (vr 297), some (vi a1), some (vi a2), some (vi a3), some (vi a4), some (vi a5), none], [vi 0], (Wd S L F G h)) _
    refine pt199 (s' := (15, [some (vr 297), some (vi a1), some (vi a2), some (vi a3), some (vi a4), some (vi a5), none], [vi (-1)], (Wd S L F G h))) (by decide) [1, 0] rfl ⟨trivial, ⟨(by decide : R32 0), (by decide : (0 : Int) = (0 : Int))⟩⟩ ?_
    exact wp.fin (v := some (vi (-1))) (by decide) am_m199 rfl ⟨_, rfl, Or.inl rfl, rfl⟩ H
  · rw [if_neg c2] at H
    refine pt112 (s' := (10, [some (vj a1), none, some (vj 0), none, some (vj 3), none], [vi (y_cmp a1 3)], (Wd S L F G h))) (by decide) [0, 0, 0, 0] rfl ⟨⟨trivial, ⟨y_cmp_r32, (fun e => c2 (y_cmp_lt.mp e))⟩⟩, ⟨(r64 g1), (by decide : R64 3)⟩⟩ ?_
    by_cases c3 : 3 < a1
    · rw [if_pos c3] at H
      refine pt112 (s' := (18, [some (vj a1), none, some (vj 0), none, some (vj 3), none], [vi 0], (Wd S L F G h))) (by decide) [1, 0] rfl ⟨trivial, ⟨y_cmp_r32, (y_cmp_gt.mpr c3)⟩⟩ ?_
      refine wp.fin (v := some (vi 0)) (by decide) am_m112 rfl ⟨_, rfl, Or.inr ⟨rfl, Or.inl rfl⟩, rfl⟩ ?_
      show wp 7 191 (9, [some (vi a1)], [vi 0], (Wd S L F G h)) _
      refine wp.fin (v := some (vi 0)) (by decide) am_m191 rfl ⟨_, rfl, Or.inr ⟨rfl, Or.inl rfl⟩, rfl⟩ ?_
      show wp 8 199 (4, [some (vr 297), some (vi a1), some (vi a2), some (vi a3), some (vi a4), some (vi a5), none], [vi 0], (Wd S L F G h)) _
      refine pt199 (s' := (15, [some (vr 297), some (vi a1), some (vi a2), some (vi a3), some (vi a4), some (vi a5), none], [vi (-1)], (Wd S L F G h))) (by decide) [1, 0] rfl ⟨trivial, ⟨(by decide : R32 0), (by decide : (0 : Int) = (0 : Int))⟩⟩ ?_
      exact wp.fin (v := some (vi (-1))) (by decide) am_m199 rfl ⟨_, rfl, Or.inl rfl, rfl⟩ H
    · rw [if_neg c3] at H
      refine pt112 (s' := (18, [some (vj a1), none, some (vj 0), none, some (vj 3), none], [vi 1], (Wd S L F G h))) (by decide) [0, 0, 0] rfl ⟨trivial, ⟨y_cmp_r32, (fun e => c3 (y_cmp_gt.mp e))⟩⟩ ?_
      refine wp.fin (v := some (vi 1)) (by decide) am_m112 rfl ⟨_, rfl, Or.inr ⟨rfl, Or.inr rfl⟩, rfl⟩ ?_
      show wp 7 191 (9, [some (vi a1)], [vi 1], (Wd S L F G h)) _
      refine wp.fin (v := some (vi 1)) (by decide) am_m191 rfl ⟨_, rfl, Or.inr ⟨rfl, Or.inr rfl⟩, rfl⟩ ?_
      show wp 8 199 (4, [some (vr 297), some (vi a1), some (vi a2), some (vi a3), some (vi a4), some (vi a5), none], [vi 1], (Wd S L F G h)) _
      refine pt199 (s' := (8, [some (vr 297), some (vi a1), some (vi a2), some (vi a3), some (vi a4), some (vi a5), none], [vi a3], (Wd S L F G h))) (by decide) [0, 0] rfl ⟨trivial, ⟨(by decide : R32 1), (by decide : ¬ (1 : Int) = (0 : Int))⟩⟩ ?_
      refine wp.cl am_m199 rfl am_m191 7 [vi a3] [] rfl (Nat.le_of_ble_eq_true rfl) (Nat.le_of_ble_eq_true rfl) rfl (Nat.le_of_ble_eq_true rfl) rfl (Nat.le_of_ble_eq_true rfl) (Nat.le_of_ble_eq_true rfl) trivial ?_
      obtain ⟨g4, H⟩ := H
      refine pt191 (s' := (6, [some (vi a3)], [vj 3, vj 0, vj a3], (Wd S L F G h))) (by decide) [0, 0, 0, 0] rfl ⟨trivial, g4⟩ ?_
      refine wp.cl am_m191 rfl am_m112 6 [vj a3, vj 0, vj 3] [] rfl (Nat.le_of_ble_eq_true rfl) (Nat.le_of_ble_eq_true rfl) rfl (Nat.le_of_ble_eq_true rfl) rfl (Nat.le_of_ble_eq_true rfl) (Nat.le_of_ble_eq_true rfl) trivial ?_
      refine pt112 (s' := (3, [some (vj a3), none, some (vj 0), none, some (vj 3), none], [vi (y_cmp a3 0)], (Wd S L F G h))) (by decide) [0, 0, 0] rfl ⟨trivial, ⟨(r64 g4), (by decide : R64 0)⟩⟩ ?_
      by_cases c5 : a3 < 0
      · rw [if_pos c5] at H
        refine pt112 (s' := (18, [some (vj a3), none, some (vj 0), none, some (vj 3), none], [vi 0], (Wd S L F G h))) (by decide) [1, 0] rfl ⟨trivial, ⟨y_cmp_r32, (y_cmp_lt.mpr c5)⟩⟩ ?_
        refine wp.fin (v := some (vi 0)) (by decide) am_m112 rfl ⟨_, rfl, Or.inr ⟨rfl, Or.inl rfl⟩, rfl⟩ ?_
        show wp 7 191 (9, [some (vi a3)], [vi 0], (Wd S L F G h)) _
        refine wp.fin (v := some (vi 0)) (by decide) am_m191 rfl ⟨_, rfl, Or.inr ⟨rfl, Or.inl rfl⟩, rfl⟩ ?_
        show wp 8 199 (11, [some (vr 297), some (vi a1), some (vi a2), some (vi a3), some (vi a4), some (vi a5), none], [vi 0], (Wd S L F G h)) _
        refine pt199 (s' := (15, [some (vr 297), some (vi a1), some (vi a2), some (vi a3), some (vi a4), some (vi a5), none], [vi (-1)], (Wd S L F G h))) (by decide) [0, 0] rfl ⟨trivial, ⟨(by decide : R32 0), (by decide : (0 : Int) = (0 : Int))⟩⟩ ?_
        exact wp.fin (v := some (vi (-1))) (by decide) am_m199 rfl ⟨_, rfl, Or.inl rfl, rfl⟩ H
      · rw [if_neg c5] at H
        refine pt112 (s' := (10, [some (vj a3), none, some (vj 0), none, some (vj 3), none], [vi (y_cmp a3 3)], (Wd S L F G h))) (by decide) [0, 0, 0, 0] rfl ⟨⟨trivial, ⟨y_cmp_r32, (fun e => c5 (y_cmp_lt.mp e))⟩⟩, ⟨(r64 g4), (by decide : R64 3)⟩⟩ ?_
        by_cases c6 : 3 < a3
        · rw [if_pos c6] at H
          refine pt112 (s' := (18, [some (vj a3), none, some (vj 0), none, some (vj 3), none], [vi 0], (Wd S L F G h))) (by decide) [1, 0] rfl ⟨trivial, ⟨y_cmp_r32, (y_cmp_gt.mpr c6)⟩⟩ ?_
          refine wp.fin (v := some (vi 0)) (by decide) am_m112 rfl ⟨_, rfl, Or.inr ⟨rfl, Or.inl rfl⟩, rfl⟩ ?_
          show wp 7 191 (9, [some (vi a3)], [vi 0], (Wd S L F G h)) _
          refine wp.fin (v := some (vi 0)) (by decide) am_m191 rfl ⟨_, rfl, Or.inr ⟨rfl, Or.inl rfl⟩, rfl⟩ ?_
          show wp 8 199 (11, [some (vr 297), some (vi a1), some (vi a2), some (vi a3), some (vi a4), some (vi a5), none], [vi 0], (Wd S L F G h)) _
          refine pt199 (s' := (15, [some (vr 297), some (vi a1), some (vi a2), some (vi a3), some (vi a4), some (vi a5), none], [vi (-1)], (Wd S L F G h))) (by decide) [0, 0] rfl ⟨trivial, ⟨(by decide : R32 0), (by decide : (0 : Int) = (0 : Int))⟩⟩ ?_
          exact wp.fin (v := some (vi (-1))) (by decide) am_m199 rfl ⟨_, rfl, Or.inl rfl, rfl⟩ H
        · rw [if_neg c6] at H
          refine pt112 (s' := (18, [some (vj a3), none, some (vj 0), none, some (vj 3), none], [vi 1], (Wd S L F G h))) (by decide) [0, 0, 0] rfl ⟨trivial, ⟨y_cmp_r32, (fun e => c6 (y_cmp_gt.mp e))⟩⟩ ?_
          refine wp.fin (v := some (vi 1)) (by decide) am_m112 rfl ⟨_, rfl, Or.inr ⟨rfl, Or.inr rfl⟩, rfl⟩ ?_
          show wp 7 191 (9, [some (vi a3)], [vi 1], (Wd S L F G h)) _
          refine wp.fin (v := some (vi 1)) (by decide) am_m191 rfl ⟨_, rfl, Or.inr ⟨rfl, Or.inr rfl⟩, rfl⟩ ?_
          show wp 8 199 (11, [some (vr 297), some (vi a1), some (vi a2), some (vi a3), some (vi a4), some (vi a5), none], [vi 1], (Wd S L F G h)) _
          obtain ⟨g7, H⟩ := H
          obtain ⟨g8, H⟩ := H
          refine pt199 (s' := (22, [some (vr 297), some (vi a1), some (vi a2), some (vi a3), some (vi a4), some (vi a5), none], [vi (F 303 a1.toNat)], (Wd S L F G h))) (by decide) [1, 0, 303, 0, 0] rfl ⟨⟨⟨trivial, ⟨(by decide : R32 1), (by decide : ¬ (1 : Int) = (0 : Int))⟩⟩, ⟨Nat.le_of_ble_eq_true rfl, rfl, hh _ _ _ rfl⟩⟩, (ix ⟨Nat.le_of_ble_eq_true rfl, rfl⟩ g7)⟩ ?_
          by_cases c9 : (F 303 a1.toNat) < 0
          · rw [if_pos c9] at H
            refine pt199 (s' := (36, [some (vr 297), some (vi a1), some (vi a2), some (vi a3), some (vi a4), some (vi a5), none], [vi (-11)], (Wd S L F G h))) (by decide) [1, 0] rfl ⟨trivial, ⟨g8, c9⟩⟩ ?_
            exact wp.fin (v := some (vi (-11))) (by decide) am_m199 rfl ⟨_, rfl, Or.inl rfl, rfl⟩ H
          · rw [if_neg c9] at H
            obtain ⟨g10, H⟩ := H
            obtain ⟨g11, H⟩ := H
            refine pt199 (s' := (31, [some (vr 297), some (vi a1), some (vi a2), some (vi a3), some (vi a4), some (vi a5), none], [vi (F 303 a3.toNat)], (Wd S L F G h))) (by decide) [0, 0, 303, 0, 0] rfl ⟨⟨⟨trivial, ⟨g8, c9⟩⟩, ⟨Nat.le_of_ble_eq_true rfl, rfl, hh _ _ _ rfl⟩⟩, (ix ⟨Nat.le_of_ble_eq_true rfl, rfl⟩ g10)⟩ ?_
            by_cases c12 : 0 ≤ (F 303 a3.toNat)
            · rw [if_pos c12] at H
              refine pt199 (s' := (49, [some (vr 297), some (vi a1), some (vi a2), some (vi a3), some (vi a4), some (vi a5), none], [vi (F 303 a3.toNat), vi (F 303 a1.toNat)], (Wd S L F G h))) (by decide) [1, 0, 303, 0, 0, 0, 303, 0, 0] rfl ⟨⟨⟨⟨⟨trivial, ⟨g11, c12⟩⟩, ⟨Nat.le_of_ble_eq_true rfl, rfl, hh _ _ _ rfl⟩⟩, (ix ⟨Nat.le_of_ble_eq_true rfl, rfl⟩ g7)⟩, ⟨Nat.le_of_ble_eq_true rfl, rfl, hh _ _ _ rfl⟩⟩, (ix ⟨Nat.le_of_ble_eq_true rfl, rfl⟩ g10)⟩ ?_
              by_cases c13 : (F 303 a1.toNat) = (F 303 a3.toNat)
              · rw [if_pos c13] at H
                obtain ⟨g14, H⟩ := H
                refine pt199 (s' := (57, [some (vr 297), some (vi a1), some (vi a2), some (vi a3), some (vi a4), some (vi a5), none], [vi a5], (Wd S L F G h))) (by decide) [1, 0] rfl ⟨trivial, ⟨⟨g8, g11⟩, c13⟩⟩ ?_
                by_cases c15 : a5 < 0
                · rw [if_pos c15] at H
                  refine pt199 (s' := (98, [some (vr 297), some (vi a1), some (vi a2), some (vi a3), some (vi a4), some (vi a5), none], [vi (-13)], (Wd S L F G h))) (by decide) [1, 0] rfl ⟨trivial, ⟨g14, c15⟩⟩ ?_
                  exact wp.fin (v := some (vi (-13))) (by decide) am_m199 rfl ⟨_, rfl, Or.inl rfl, rfl⟩ H
                · rw [if_neg c15] at H
                  obtain ⟨g16, H⟩ := H
                  refine pt199 (s' := (61, [some (vr 297), some (vi a1), some (vi a2), some (vi a3), some (vi a4), some (vi a5), none], [vi a2], (Wd S L F G h))) (by decide) [0, 0] rfl ⟨trivial, ⟨g14, c15⟩⟩ ?_
                  by_cases c17 : a2 < 0
                  · rw [if_pos c17] at H
                    refine pt199 (s' := (98, [some (vr 297), some (vi a1), some (vi a2), some (vi a3), some (vi a4), some (vi a5), none], [vi (-13)], (Wd S L F G h))) (by decide) [1, 0] rfl ⟨trivial, ⟨g16, c17⟩⟩ ?_
                    exact wp.fin (v := some (vi (-13))) (by decide) am_m199 rfl ⟨_, rfl, Or.inl rfl, rfl⟩ H
                  · rw [if_neg c17] at H
                    obtain ⟨g18, H⟩ := H
                    refine pt199 (s' := (66, [some (vr 297), some (vi a1), some (vi a2), some (vi a3), some (vi a4), some (vi a5), none], [vi a4], (Wd S L F G h))) (by decide) [0, 0] rfl ⟨trivial, ⟨g16, c17⟩⟩ ?_
                    by_cases c19 : a4 < 0
                    · rw [if_pos c19] at H
                      refine pt199 (s' := (98, [some (vr 297), some (vi a1), some (vi a2), some (vi a3), some (vi a4), some (vi a5), none], [vi (-13)], (Wd S L F G h))) (by decide) [1, 0] rfl ⟨trivial, ⟨g18, c19⟩⟩ ?_
                      exact wp.fin (v := some (vi (-13))) (by decide) am_m199 rfl ⟨_, rfl, Or.inl rfl, rfl⟩ H
                    · rw [if_neg c19] at H
                      obtain ⟨g20, H⟩ := H
                      refine pt199 (s' := (79, [some (vr 297), some (vi a1), some (vi a2), some (vi a3), some (vi a4), some (vi a5), none], [vi ((F 304 a1.toNat) - a2), vi a5], (Wd S L F G h))) (by decide) [0, 0, 0, 304, 0, 0, 0, 0] rfl ⟨⟨⟨trivial, ⟨g18, c19⟩⟩, ⟨Nat.le_of_ble_eq_true rfl, rfl, hh _ _ _ rfl⟩⟩, (ix ⟨Nat.le_of_ble_eq_true rfl, rfl⟩ g7)⟩ ?_
                      by_cases c21 : ((F 304 a1.toNat) - a2) < a5
                      · rw [if_pos c21] at H
                        refine pt199 (s' := (98, [some (vr 297), some (vi a1), some (vi a2), some (vi a3), some (vi a4), some (vi a5), none], [vi (-13)], (Wd S L F G h))) (by decide) [1, 0] rfl ⟨trivial, ⟨⟨g14, g20⟩, c21⟩⟩ ?_
                        exact wp.fin (v := some (vi (-13))) (by decide) am_m199 rfl ⟨_, rfl, Or.inl rfl, rfl⟩ H
                      · rw [if_neg c21] at H
                        obtain ⟨g22, H⟩ := H
                        refine pt199 (s' := (93, [some (vr 297), some (vi a1), some (vi a2), some (vi a3), some (vi a4), some (vi a5), none], [vi ((F 304 a3.toNat) - a4), vi a5], (Wd S L F G h))) (by decide) [0, 0, 0, 304, 0, 0, 0, 0] rfl ⟨⟨⟨trivial, ⟨⟨g14, g20⟩, c21⟩⟩, ⟨Nat.le_of_ble_eq_true rfl, rfl, hh _ _ _ rfl⟩⟩, (ix ⟨Nat.le_of_ble_eq_true rfl, rfl⟩ g10)⟩ ?_
                        by_cases c23 : a5 ≤ ((F 304 a3.toNat) - a4)
                        · rw [if_pos c23] at H
                          refine pt199 (s' := (102, [some (vr 297), some (vi a1), some (vi a2), some (vi a3), some (vi a4), some (vi a5), some (vi 0)], [], (Wd S L F G h))) (by decide) [1, 0, 0] rfl ⟨trivial, ⟨⟨g14, g22⟩, c23⟩⟩ ?_
                          exact wp.weak (a := [some (vr 297), some (vi a1), some (vi a2), some (vi a3), some (vi a4), some (vi a5), some (vi 0)]) ⟨rfl, rfl, rfl, rfl, rfl, rfl, rfl, trivial⟩ H
                        · rw [if_neg c23] at H
                          refine pt199 (s' := (98, [some (vr 297), some (vi a1), some (vi a2), some (vi a3), some (vi a4), some (vi a5), none], [vi (-13)], (Wd S L F G h))) (by decide) [0, 0] rfl ⟨trivial, ⟨⟨g14, g22⟩, c23⟩⟩ ?_
                          exact wp.fin (v := some (vi (-13))) (by decide) am_m199 rfl ⟨_, rfl, Or.inl rfl, rfl⟩ H
              · rw [if_neg c13] at H
                refine pt199 (s' := (54, [some (vr 297), some (vi a1), some (vi a2), some (vi a3), some (vi a4), some (vi a5), none], [vi (-12)], (Wd S L F G h))) (by decide) [0, 0] rfl ⟨trivial, ⟨⟨g8, g11⟩, c13⟩⟩ ?_
                exact wp.fin (v := some (vi (-12))) (by decide) am_m199 rfl ⟨_, rfl, Or.inl rfl, rfl⟩ H
            · rw [if_neg c12] at H
              refine pt199 (s' := (36, [some (vr 297), some (vi a1), some (vi a2), some (vi a3), some (vi a4), some (vi a5), none], [vi (-11)], (Wd S L F G h))) (by decide) [0, 0] rfl ⟨trivial, ⟨g11, c12⟩⟩ ?_
              exact wp.fin (v := some (vi (-11))) (by decide) am_m199 rfl ⟨_, rfl, Or.inl rfl, rfl⟩ H
set_option maxRecDepth 100000 in
set_option maxHeartbeats 4000000 in
theorem T199_102 {S L : Nat} {F G : Nat → Nat → Int} {h : Nat → Nat → Option Nat} (hh : RfH h) {x1 : Int} {x2 : Int} {x3 : Int} {x4 : Int} {x5 : Int} {x6 : Int}  {Q : Option V2 → W2 → Prop}
    (H : (R32 x6 ∧
 R32 x5 ∧
 (if x5 ≤ x6 then
  C199_139 x3 x4 x5 0 (Wd S L F G h) Q
 else
  ((0 ≤ (((24 * x1) + x2) + x6) ∧ (((24 * x1) + x2) + x6) < 96) ∧
  (0 ≤ x6 ∧ x6 < 24) ∧
  C199_102 x1 x2 x3 x4 x5 (x6 + 1) (Wd S L F (am_up G 306 x6.toNat (G 305 (((24 * x1) + x2) + x6).toNat)) h) Q)))) : C199_102 x1 x2 x3 x4 x5 x6 (Wd S L F G h) Q := by
  obtain ⟨g1, H⟩ := H
  obtain ⟨g2, H⟩ := H
  refine pt199 (s' := (106, [some (vr 297), some (vi x1), some (vi x2), some (vi x3), some (vi x4), some (vi x5), some (vi x6)], [vi x5, vi x6], (Wd S L F G h))) (by decide) [0, 0] rfl trivial ?_
  by_cases c3 : x5 ≤ x6
  · rw [if_pos c3] at H
    refine pt199 (s' := (139, [some (vr 297), some (vi x1), some (vi x2), some (vi x3), some (vi x4), some (vi x5), some (vi 0)], [], (Wd S L F G h))) (by decide) [1, 0, 0] rfl ⟨trivial, ⟨⟨g1, g2⟩, c3⟩⟩ ?_
    exact wp.weak (a := [some (vr 297), none, none, some (vi x3), some (vi x4), some (vi x5), some (vi 0)]) ⟨rfl, rfl, rfl, rfl, rfl, trivial⟩ H
  · rw [if_neg c3] at H
    obtain ⟨g4, H⟩ := H
    obtain ⟨g5, H⟩ := H
    refine pt199 (s' := (102, [some (vr 297), some (vi x1), some (vi x2), some (vi x3), some (vi x4), some (vi x5), some (vi (x6 + 1))], [], (Wd S L F (am_up G 306 x6.toNat (G 305 (((24 * x1) + x2) + x6).toNat)) h))) (by decide) [0, 0, 306, 0, 0, 305, 0, 0, 0, 0, 0, 0, 0, 0, 0, 0, 0] rfl ⟨⟨⟨⟨⟨trivial, ⟨⟨g1, g2⟩, c3⟩⟩, ⟨Nat.le_of_ble_eq_true rfl, rfl, hh _ _ _ rfl⟩⟩, ⟨Nat.le_of_ble_eq_true rfl, rfl, hh _ _ _ rfl⟩⟩, (ix ⟨Nat.le_of_ble_eq_true rfl, rfl⟩ g4)⟩, (ix ⟨Nat.le_of_ble_eq_true rfl, rfl⟩ g5)⟩ ?_
    exact wp.weak (a := [some (vr 297), some (vi x1), some (vi x2), some (vi x3), some (vi x4), some (vi x5), some (vi (x6 + 1))]) ⟨rfl, rfl, rfl, rfl, rfl, rfl, rfl, trivial⟩ H
set_option maxRecDepth 100000 in
set_option maxHeartbeats 4000000 in
theorem T199_139 {S L : Nat} {F G : Nat → Nat → Int} {h : Nat → Nat → Option Nat} (hh : RfH h) {x3 : Int} {x4 : Int} {x5 : Int} {x6 : Int}  {Q : Option V2 → W2 → Prop}
    (H : (R32 x6 ∧
 R32 x5 ∧
 (if x5 ≤ x6 then
  Q (some (vi x5)) (Wd S L F G h)
 else
  ((0 ≤ x6 ∧ x6 < 24) ∧
  (0 ≤ (((24 * x3) + x4) + x6) ∧ (((24 * x3) + x4) + x6) < 96) ∧
  C199_139 x3 x4 x5 (x6 + 1) (Wd S L F (am_up G 305 (((24 * x3) + x4) + x6).toNat (G 306 x6.toNat)) h) Q)))) : C199_139 x3 x4 x5 x6 (Wd S L F G h) Q := by
  obtain ⟨g1, H⟩ := H
  obtain ⟨g2, H⟩ := H
  refine pt199 (s' := (143, [some (vr 297), none, none, some (vi x3), some (vi x4), some (vi x5), some (vi x6)], [vi x5, vi x6], (Wd S L F G h))) (by decide) [0, 0] rfl trivial ?_
  by_cases c3 : x5 ≤ x6
  · rw [if_pos c3] at H
    refine pt199 (s' := (176, [some (vr 297), none, none, some (vi x3), some (vi x4), some (vi x5), some (vi x6)], [vi x5], (Wd S L F G h))) (by decide) [1, 0] rfl ⟨trivial, ⟨⟨g1, g2⟩, c3⟩⟩ ?_
    exact wp.fin (v := some (vi x5)) (by decide) am_m199 rfl ⟨_, rfl, Or.inl rfl, rfl⟩ H
  · rw [if_neg c3] at H
    obtain ⟨g4, H⟩ := H
    obtain ⟨g5, H⟩ := H
    refine pt199 (s' := (139, [some (vr 297), none, none, some (vi x3), some (vi x4), some (vi x5), some (vi (x6 + 1))], [], (Wd S L F (am_up G 305 (((24 * x3) + x4) + x6).toNat (G 306 x6.toNat)) h))) (by decide) [0, 0, 305, 0, 0, 0, 0, 0, 0, 0, 0, 306, 0, 0, 0, 0, 0] rfl ⟨⟨⟨⟨⟨trivial, ⟨⟨g1, g2⟩, c3⟩⟩, ⟨Nat.le_of_ble_eq_true rfl, rfl, hh _ _ _ rfl⟩⟩, ⟨Nat.le_of_ble_eq_true rfl, rfl, hh _ _ _ rfl⟩⟩, (ix ⟨Nat.le_of_ble_eq_true rfl, rfl⟩ g4)⟩, (ix ⟨Nat.le_of_ble_eq_true rfl, rfl⟩ g5)⟩ ?_
    exact wp.weak (a := [some (vr 297), none, none, some (vi x3), some (vi x4), some (vi x5), some (vi (x6 + 1))]) ⟨rfl, rfl, rfl, rfl, rfl, trivial⟩ H
set_option maxRecDepth 100000 in
set_option maxHeartbeats 4000000 in
theorem T200_0 {S L : Nat} {F G : Nat → Nat → Int} {h : Nat → Nat → Option Nat} (hh : RfH h) {a0 : Int}  {Q : Option V2 → W2 → Prop}
    (H : Q (some (vi ((Int32.ofInt ((((Int32.ofInt ((((Int32.ofInt (a0 - ((Int32.ofInt (((Int32.ofInt a0).toUInt32 >>> ((Int32.ofInt 1).toUInt32 &&& Int32.toUInt32 31)).toInt32.toInt) &&& Int32.ofInt 1431655765).toInt)) &&& Int32.ofInt 858993459).toInt) + ((Int32.ofInt (((Int32.ofInt (a0 - ((Int32.ofInt (((Int32.ofInt a0).toUInt32 >>> ((Int32.ofInt 1).toUInt32 &&& Int32.toUInt32 31)).toInt32.toInt) &&& Int32.ofInt 1431655765).toInt))).toUInt32 >>> ((Int32.ofInt 2).toUInt32 &&& Int32.toUInt32 31)).toInt32.toInt) &&& Int32.ofInt 858993459).toInt)) + (((Int32.ofInt (((Int32.ofInt (a0 - ((Int32.ofInt (((Int32.ofInt a0).toUInt32 >>> ((Int32.ofInt 1).toUInt32 &&& Int32.toUInt32 31)).toInt32.toInt) &&& Int32.ofInt 1431655765).toInt)) &&& Int32.ofInt 858993459).toInt) + ((Int32.ofInt (((Int32.ofInt (a0 - ((Int32.ofInt (((Int32.ofInt a0).toUInt32 >>> ((Int32.ofInt 1).toUInt32 &&& Int32.toUInt32 31)).toInt32.toInt) &&& Int32.ofInt 1431655765).toInt))).toUInt32 >>> ((Int32.ofInt 2).toUInt32 &&& Int32.toUInt32 31)).toInt32.toInt) &&& Int32.ofInt 858993459).toInt))).toUInt32 >>> ((Int32.ofInt 4).toUInt32 &&& Int32.toUInt32 31)).toInt32.toInt)) &&& Int32.ofInt 252645135).toInt) + (((Int32.ofInt ((Int32.ofInt ((((Int32.ofInt (a0 - ((Int32.ofInt (((Int32.ofInt a0).toUInt32 >>> ((Int32.ofInt 1).toUInt32 &&& Int32.toUInt32 31)).toInt32.toInt) &&& Int32.ofInt 1431655765).toInt)) &&& Int32.ofInt 858993459).toInt) + ((Int32.ofInt (((Int32.ofInt (a0 - ((Int32.ofInt (((Int32.ofInt a0).toUInt32 >>> ((Int32.ofInt 1).toUInt32 &&& Int32.toUInt32 31)).toInt32.toInt) &&& Int32.ofInt 1431655765).toInt))).toUInt32 >>> ((Int32.ofInt 2).toUInt32 &&& Int32.toUInt32 31)).toInt32.toInt) &&& Int32.ofInt 858993459).toInt)) + (((Int32.ofInt (((Int32.ofInt (a0 - ((Int32.ofInt (((Int32.ofInt a0).toUInt32 >>> ((Int32.ofInt 1).toUInt32 &&& Int32.toUInt32 31)).toInt32.toInt) &&& Int32.ofInt 1431655765).toInt)) &&& Int32.ofInt 858993459).toInt) + ((Int32.ofInt (((Int32.ofInt (a0 - ((Int32.ofInt (((Int32.ofInt a0).toUInt32 >>> ((Int32.ofInt 1).toUInt32 &&& Int32.toUInt32 31)).toInt32.toInt) &&& Int32.ofInt 1431655765).toInt))).toUInt32 >>> ((Int32.ofInt 2).toUInt32 &&& Int32.toUInt32 31)).toInt32.toInt) &&& Int32.ofInt 858993459).toInt))).toUInt32 >>> ((Int32.ofInt 4).toUInt32 &&& Int32.toUInt32 31)).toInt32.toInt)) &&& Int32.ofInt 252645135).toInt)).toUInt32 >>> ((Int32.ofInt 8).toUInt32 &&& Int32.toUInt32 31)).toInt32.toInt)) + (((Int32.ofInt (((Int32.ofInt ((((Int32.ofInt (a0 - ((Int32.ofInt (((Int32.ofInt a0).toUInt32 >>> ((Int32.ofInt 1).toUInt32 &&& Int32.toUInt32 31)).toInt32.toInt) &&& Int32.ofInt 1431655765).toInt)) &&& Int32.ofInt 858993459).toInt) + ((Int32.ofInt (((Int32.ofInt (a0 - ((Int32.ofInt (((Int32.ofInt a0).toUInt32 >>> ((Int32.ofInt 1).toUInt32 &&& Int32.toUInt32 31)).toInt32.toInt) &&& Int32.ofInt 1431655765).toInt))).toUInt32 >>> ((Int32.ofInt 2).toUInt32 &&& Int32.toUInt32 31)).toInt32.toInt) &&& Int32.ofInt 858993459).toInt)) + (((Int32.ofInt (((Int32.ofInt (a0 - ((Int32.ofInt (((Int32.ofInt a0).toUInt32 >>> ((Int32.ofInt 1).toUInt32 &&& Int32.toUInt32 31)).toInt32.toInt) &&& Int32.ofInt 1431655765).toInt)) &&& Int32.ofInt 858993459).toInt) + ((Int32.ofInt (((Int32.ofInt (a0 - ((Int32.ofInt (((Int32.ofInt a0).toUInt32 >>> ((Int32.ofInt 1).toUInt32 &&& Int32.toUInt32 31)).toInt32.toInt) &&& Int32.ofInt 1431655765).toInt))).toUInt32 >>> ((Int32.ofInt 2).toUInt32 &&& Int32.toUInt32 31)).toInt32.toInt) &&& Int32.ofInt 858993459).toInt))).toUInt32 >>> ((Int32.ofInt 4).toUInt32 &&& Int32.toUInt32 31)).toInt32.toInt)) &&& Int32.ofInt 252645135).toInt) + (((Int32.ofInt ((Int32.ofInt ((((Int32.ofInt (a0 - ((Int32.ofInt (((Int32.ofInt a0).toUInt32 >>> ((Int32.ofInt 1).toUInt32 &&& Int32.toUInt32 31)).toInt32.toInt) &&& Int32.ofInt 1431655765).toInt)) &&& Int32.ofInt 858993459).toInt) + ((Int32.ofInt (((Int32.ofInt (a0 - ((Int32.ofInt (((Int32.ofInt a0).toUInt32 >>> ((Int32.ofInt 1).toUInt32 &&& Int32.toUInt32 31)).toInt32.toInt) &&& Int32.ofInt 1431655765).toInt))).toUInt32 >>> ((Int32.ofInt 2).toUInt32 &&& Int32.toUInt32 31)).toInt32.toInt) &&& Int32.ofInt 858993459).toInt)) + (((Int32.ofInt (((Int32.ofInt (a0 - ((Int32.ofInt (((Int32.ofInt a0).toUInt32 >>> ((Int32.ofInt 1).toUInt32 &&& Int32.toUInt32 31)).toInt32.toInt) &&& Int32.ofInt 1431655765).toInt)) &&& Int32.ofInt 858993459).toInt) + ((Int32.ofInt (((Int32.ofInt (a0 - ((Int32.ofInt (((Int32.ofInt a0).toUInt32 >>> ((Int32.ofInt 1).toUInt32 &&& Int32.toUInt32 31)).toInt32.toInt) &&& Int32.ofInt 1431655765).toInt))).toUInt32 >>> ((Int32.ofInt 2).toUInt32 &&& Int32.toUInt32 31)).toInt32.toInt) &&& Int32.ofInt 858993459).toInt))).toUInt32 >>> ((Int32.ofInt 4).toUInt32 &&& Int32.toUInt32 31)).toInt32.toInt)) &&& Int32.ofInt 252645135).toInt)).toUInt32 >>> ((Int32.ofInt 8).toUInt32 &&& Int32.toUInt32 31)).toInt32.toInt))).toUInt32 >>> ((Int32.ofInt 16).toUInt32 &&& Int32.toUInt32 31)).toInt32.toInt)) &&& Int32.ofInt 63).toInt))) (Wd S L F G h)) : C200_0 a0 (Wd S L F G h) Q := by
  refine pt200 (s' := (52, [some (vi ((((Int32.ofInt ((((Int32.ofInt (a0 - ((Int32.ofInt (((Int32.ofInt a0).toUInt32 >>> ((Int32.ofInt 1).toUInt32 &&& Int32.toUInt32 31)).toInt32.toInt) &&& Int32.ofInt 1431655765).toInt)) &&& Int32.ofInt 858993459).toInt) + ((Int32.ofInt (((Int32.ofInt (a0 - ((Int32.ofInt (((Int32.ofInt a0).toUInt32 >>> ((Int32.ofInt 1).toUInt32 &&& Int32.toUInt32 31)).toInt32.toInt) &&& Int32.ofInt 1431655765).toInt))).toUInt32 >>> ((Int32.ofInt 2).toUInt32 &&& Int32.toUInt32 31)).toInt32.toInt) &&& Int32.ofInt 858993459).toInt)) + (((Int32.ofInt (((Int32.ofInt (a0 - ((Int32.ofInt (((Int32.ofInt a0).toUInt32 >>> ((Int32.ofInt 1).toUInt32 &&& Int32.toUInt32 31)).toInt32.toInt) &&& Int32.ofInt 1431655765).toInt)) &&& Int32.ofInt 858993459).toInt) + ((Int32.ofInt (((Int32.ofInt (a0 - ((Int32.ofInt (((Int32.ofInt a0).toUInt32 >>> ((Int32.ofInt 1).toUInt32 &&& Int32.toUInt32 31)).toInt32.toInt) &&& Int32.ofInt 1431655765).toInt))).toUInt32 >>> ((Int32.ofInt 2).toUInt32 &&& Int32.toUInt32 31)).toInt32.toInt) &&& Int32.ofInt 858993459).toInt))).toUInt32 >>> ((Int32.ofInt 4).toUInt32 &&& Int32.toUInt32 31)).toInt32.toInt)) &&& Int32.ofInt 252645135).toInt) + (((Int32.ofInt ((Int32.ofInt ((((Int32.ofInt (a0 - ((Int32.ofInt (((Int32.ofInt a0).toUInt32 >>> ((Int32.ofInt 1).toUInt32 &&& Int32.toUInt32 31)).toInt32.toInt) &&& Int32.ofInt 1431655765).toInt)) &&& Int32.ofInt 858993459).toInt) + ((Int32.ofInt (((Int32.ofInt (a0 - ((Int32.ofInt (((Int32.ofInt a0).toUInt32 >>> ((Int32.ofInt 1).toUInt32 &&& Int32.toUInt32 31)).toInt32.toInt) &&& Int32.ofInt 1431655765).toInt))).toUInt32 >>> ((Int32.ofInt 2).toUInt32 &&& Int32.toUInt32 31)).toInt32.toInt) &&& Int32.ofInt 858993459).toInt)) + (((Int32.ofInt (((Int32.ofInt (a0 - ((Int32.ofInt (((Int32.ofInt a0).toUInt32 >>> ((Int32.ofInt 1).toUInt32 &&& Int32.toUInt32 31)).toInt32.toInt) &&& Int32.ofInt 1431655765).toInt)) &&& Int32.ofInt 858993459).toInt) + ((Int32.ofInt (((Int32.ofInt (a0 - ((Int32.ofInt (((Int32.ofInt a0).toUInt32 >>> ((Int32.ofInt 1).toUInt32 &&& Int32.toUInt32 31)).toInt32.toInt) &&& Int32.ofInt 1431655765).toInt))).toUInt32 >>> ((Int32.ofInt 2).toUInt32 &&& Int32.toUInt32 31)).toInt32.toInt) &&& Int32.ofInt 858993459).toInt))).toUInt32 >>> ((Int32.ofInt 4).toUInt32 &&& Int32.toUInt32 31)).toInt32.toInt)) &&& Int32.ofInt 252645135).toInt)).toUInt32 >>> ((Int32.ofInt 8).toUInt32 &&& Int32.toUInt32 31)).toInt32.toInt)) + (((Int32.ofInt (((Int32.ofInt ((((Int32.ofInt (a0 - ((Int32.ofInt (((Int32.ofInt a0).toUInt32 >>> ((Int32.ofInt 1).toUInt32 &&& Int32.toUInt32 31)).toInt32.toInt) &&& Int32.ofInt 1431655765).toInt)) &&& Int32.ofInt 858993459).toInt) + ((Int32.ofInt (((Int32.ofInt (a0 - ((Int32.ofInt (((Int32.ofInt a0).toUInt32 >>> ((Int32.ofInt 1).toUInt32 &&& Int32.toUInt32 31)).toInt32.toInt) &&& Int32.ofInt 1431655765).toInt))).toUInt32 >>> ((Int32.ofInt 2).toUInt32 &&& Int32.toUInt32 31)).toInt32.toInt) &&& Int32.ofInt 858993459).toInt)) + (((Int32.ofInt (((Int32.ofInt (a0 - ((Int32.ofInt (((Int32.ofInt a0).toUInt32 >>> ((Int32.ofInt 1).toUInt32 &&& Int32.toUInt32 31)).toInt32.toInt) &&& Int32.ofInt 1431655765).toInt)) &&& Int32.ofInt 858993459).toInt) + ((Int32.ofInt (((Int32.ofInt (a0 - ((Int32.ofInt (((Int32.ofInt a0).toUInt32 >>> ((Int32.ofInt 1).toUInt32 &&& Int32.toUInt32 31)).toInt32.toInt) &&& Int32.ofInt 1431655765).toInt))).toUInt32 >>> ((Int32.ofInt 2).toUInt32 &&& Int32.toUInt32 31)).toInt32.toInt) &&& Int32.ofInt 858993459).toInt))).toUInt32 >>> ((Int32.ofInt 4).toUInt32 &&& Int32.toUInt32 31)).toInt32.toInt)) &&& Int32.ofInt 252645135).toInt) + (((Int32.ofInt ((Int32.ofInt ((((Int32.ofInt (a0 - ((Int32.ofInt (((Int32.ofInt a0).toUInt32 >>> ((Int32.ofInt 1).toUInt32 &&& Int32.toUInt32 31)).toInt32.toInt) &&& Int32.ofInt 1431655765).toInt)) &&& Int32.ofInt 858993459).toInt) + ((Int32.ofInt (((Int32.ofInt (a0 - ((Int32.ofInt (((Int32.ofInt a0).toUInt32 >>> ((Int32.ofInt 1).toUInt32 &&& Int32.toUInt32 31)).toInt32.toInt) &&& Int32.ofInt 1431655765).toInt))).toUInt32 >>> ((Int32.ofInt 2).toUInt32 &&& Int32.toUInt32 31)).toInt32.toInt) &&& Int32.ofInt 858993459).toInt)) + (((Int32.ofInt (((Int32.ofInt (a0 - ((Int32.ofInt (((Int32.ofInt a0).toUInt32 >>> ((Int32.ofInt 1).toUInt32 &&& Int32.toUInt32 31)).toInt32.toInt) &&& Int32.ofInt 1431655765).toInt)) &&& Int32.ofInt 858993459).toInt) + ((Int32.ofInt (((Int32.ofInt (a0 - ((Int32.ofInt (((Int32.ofInt a0).toUInt32 >>> ((Int32.ofInt 1).toUInt32 &&& Int32.toUInt32 31)).toInt32.toInt) &&& Int32.ofInt 1431655765).toInt))).toUInt32 >>> ((Int32.ofInt 2).toUInt32 &&& Int32.toUInt32 31)).toInt32.toInt) &&& Int32.ofInt 858993459).toInt))).toUInt32 >>> ((Int32.ofInt 4).toUInt32 &&& Int32.toUInt32 31)).toInt32.toInt)) &&& Int32.ofInt 252645135).toInt)).toUInt32 >>> ((Int32.ofInt 8).toUInt32 &&& Int32.toUInt32 31)).toInt32.toInt))).toUInt32 >>> ((Int32.ofInt 16).toUInt32 &&& Int32.toUInt32 31)).toInt32.toInt)))], [vi ((Int32.ofInt ((((Int32.ofInt ((((Int32.ofInt (a0 - ((Int32.ofInt (((Int32.ofInt a0).toUInt32 >>> ((Int32.ofInt 1).toUInt32 &&& Int32.toUInt32 31)).toInt32.toInt) &&& Int32.ofInt 1431655765).toInt)) &&& Int32.ofInt 858993459).toInt) + ((Int32.ofInt (((Int32.ofInt (a0 - ((Int32.ofInt (((Int32.ofInt a0).toUInt32 >>> ((Int32.ofInt 1).toUInt32 &&& Int32.toUInt32 31)).toInt32.toInt) &&& Int32.ofInt 1431655765).toInt))).toUInt32 >>> ((Int32.ofInt 2).toUInt32 &&& Int32.toUInt32 31)).toInt32.toInt) &&& Int32.ofInt 858993459).toInt)) + (((Int32.ofInt (((Int32.ofInt (a0 - ((Int32.ofInt (((Int32.ofInt a0).toUInt32 >>> ((Int32.ofInt 1).toUInt32 &&& Int32.toUInt32 31)).toInt32.toInt) &&& Int32.ofInt 1431655765).toInt)) &&& Int32.ofInt 858993459).toInt) + ((Int32.ofInt (((Int32.ofInt (a0 - ((Int32.ofInt (((Int32.ofInt a0).toUInt32 >>> ((Int32.ofInt 1).toUInt32 &&& Int32.toUInt32 31)).toInt32.toInt) &&& Int32.ofInt 1431655765).toInt))).toUInt32 >>> ((Int32.ofInt 2).toUInt32 &&& Int32.toUInt32 31)).toInt32.toInt) &&& Int32.ofInt 858993459).toInt))).toUInt32 >>> ((Int32.ofInt 4).toUInt32 &&& Int32.toUInt32 31)).toInt32.toInt)) &&& Int32.ofInt 252645135).toInt) + (((Int32.ofInt ((Int32.ofInt ((((Int32.ofInt (a0 - ((Int32.ofInt (((Int32.ofInt a0).toUInt32 >>> ((Int32.ofInt 1).toUInt32 &&& Int32.toUInt32 31)).toInt32.toInt) &&& Int32.ofInt 1431655765).toInt)) &&& Int32.ofInt 858993459).toInt) + ((Int32.ofInt (((Int32.ofInt (a0 - ((Int32.ofInt (((Int32.ofInt a0).toUInt32 >>> ((Int32.ofInt 1).toUInt32 &&& Int32.toUInt32 31)).toInt32.toInt) &&& Int32.ofInt 1431655765).toInt))).toUInt32 >>> ((Int32.ofInt 2).toUInt32 &&& Int32.toUInt32 31)).toInt32.toInt) &&& Int32.ofInt 858993459).toInt)) + (((Int32.ofInt (((Int32.ofInt (a0 - ((Int32.ofInt (((Int32.ofInt a0).toUInt32 >>> ((Int32.ofInt 1).toUInt32 &&& Int32.toUInt32 31)).toInt32.toInt) &&& Int32.ofInt 1431655765).toInt)) &&& Int32.ofInt 858993459).toInt) + ((Int32.ofInt (((Int32.ofInt (a0 - ((Int32.ofInt (((Int32.ofInt a0).toUInt32 >>> ((Int32.ofInt 1).toUInt32 &&& Int32.toUInt32 31)).toInt32.toInt) &&& Int32.ofInt 1431655765).toInt))).toUInt32 >>> ((Int32.ofInt 2).toUInt32 &&& Int32.toUInt32 31)).toInt32.toInt) &&& Int32.ofInt 858993459).toInt))).toUInt32 >>> ((Int32.ofInt 4).toUInt32 &&& Int32.toUInt32 31)).toInt32.toInt)) &&& Int32.ofInt 252645135).toInt)).toUInt32 >>> ((Int32.ofInt 8).toUInt32 &&& Int32.toUInt32 31)).toInt32.toInt)) + (((Int32.ofInt (((Int32.ofInt ((((Int32.ofInt (a0 - ((Int32.ofInt (((Int32.ofInt a0).toUInt32 >>> ((Int32.ofInt 1).toUInt32 &&& Int32.toUInt32 31)).toInt32.toInt) &&& Int32.ofInt 1431655765).toInt)) &&& Int32.ofInt 858993459).toInt) + ((Int32.ofInt (((Int32.ofInt (a0 - ((Int32.ofInt (((Int32.ofInt a0).toUInt32 >>> ((Int32.ofInt 1).toUInt32 &&& Int32.toUInt32 31)).toInt32.toInt) &&& Int32.ofInt 1431655765).toInt))).toUInt32 >>> ((Int32.ofInt 2).toUInt32 &&& Int32.toUInt32 31)).toInt32.toInt) &&& Int32.ofInt 858993459).toInt)) + (((Int32.ofInt (((Int32.ofInt (a0 - ((Int32.ofInt (((Int32.ofInt a0).toUInt32 >>> ((Int32.ofInt 1).toUInt32 &&& Int32.toUInt32 31)).toInt32.toInt) &&& Int32.ofInt 1431655765).toInt)) &&& Int32.ofInt 858993459).toInt) + ((Int32.ofInt (((Int32.ofInt (a0 - ((Int32.ofInt (((Int32.ofInt a0).toUInt32 >>> ((Int32.ofInt 1).toUInt32 &&& Int32.toUInt32 31)).toInt32.toInt) &&& Int32.ofInt 1431655765).toInt))).toUInt32 >>> ((Int32.ofInt 2).toUInt32 &&& Int32.toUInt32 31)).toInt32.toInt) &&& Int32.ofInt 858993459).toInt))).toUInt32 >>> ((Int32.ofInt 4).toUInt32 &&& Int32.toUInt32 31)).toInt32.toInt)) &&& Int32.ofInt 252645135).toInt) + (((Int32.ofInt ((Int32.ofInt ((((Int32.ofInt (a0 - ((Int32.ofInt (((Int32.ofInt a0).toUInt32 >>> ((Int32.ofInt 1).toUInt32 &&& Int32.toUInt32 31)).toInt32.toInt) &&& Int32.ofInt 1431655765).toInt)) &&& Int32.ofInt 858993459).toInt) + ((Int32.ofInt (((Int32.ofInt (a0 - ((Int32.ofInt (((Int32.ofInt a0).toUInt32 >>> ((Int32.ofInt 1).toUInt32 &&& Int32.toUInt32 31)).toInt32.toInt) &&& Int32.ofInt 1431655765).toInt))).toUInt32 >>> ((Int32.ofInt 2).toUInt32 &&& Int32.toUInt32 31)).toInt32.toInt) &&& Int32.ofInt 858993459).toInt)) + (((Int32.ofInt (((Int32.ofInt (a0 - ((Int32.ofInt (((Int32.ofInt a0).toUInt32 >>> ((Int32.ofInt 1).toUInt32 &&& Int32.toUInt32 31)).toInt32.toInt) &&& Int32.ofInt 1431655765).toInt)) &&& Int32.ofInt 858993459).toInt) + ((Int32.ofInt (((Int32.ofInt (a0 - ((Int32.ofInt (((Int32.ofInt a0).toUInt32 >>> ((Int32.ofInt 1).toUInt32 &&& Int32.toUInt32 31)).toInt32.toInt) &&& Int32.ofInt 1431655765).toInt))).toUInt32 >>> ((Int32.ofInt 2).toUInt32 &&& Int32.toUInt32 31)).toInt32.toInt) &&& Int32.ofInt 858993459).toInt))).toUInt32 >>> ((Int32.ofInt 4).toUInt32 &&& Int32.toUInt32 31)).toInt32.toInt)) &&& Int32.ofInt 252645135).toInt)).toUInt32 >>> ((Int32.ofInt 8).toUInt32 &&& Int32.toUInt32 31)).toInt32.toInt))).toUInt32 >>> ((Int32.ofInt 16).toUInt32 &&& Int32.toUInt32 31)).toInt32.toInt)) &&& Int32.ofInt 63).toInt)], (Wd S L F G h))) (by decide) [0, 0, 0, 0, 0, 0, 0, 0, 0, 0, 0, 0, 0, 0, 0, 0, 0, 0, 0, 0, 0, 0, 0, 0, 0, 0, 0, 0, 0, 0, 0, 0, 0, 0, 0, 0, 0, 0, 0, 0, 0] rfl trivial ?_
  exact wp.fin (v := some (vi ((Int32.ofInt ((((Int32.ofInt ((((Int32.ofInt (a0 - ((Int32.ofInt (((Int32.ofInt a0).toUInt32 >>> ((Int32.ofInt 1).toUInt32 &&& Int32.toUInt32 31)).toInt32.toInt) &&& Int32.ofInt 1431655765).toInt)) &&& Int32.ofInt 858993459).toInt) + ((Int32.ofInt (((Int32.ofInt (a0 - ((Int32.ofInt (((Int32.ofInt a0).toUInt32 >>> ((Int32.ofInt 1).toUInt32 &&& Int32.toUInt32 31)).toInt32.toInt) &&& Int32.ofInt 1431655765).toInt))).toUInt32 >>> ((Int32.ofInt 2).toUInt32 &&& Int32.toUInt32 31)).toInt32.toInt) &&& Int32.ofInt 858993459).toInt)) + (((Int32.ofInt (((Int32.ofInt (a0 - ((Int32.ofInt (((Int32.ofInt a0).toUInt32 >>> ((Int32.ofInt 1).toUInt32 &&& Int32.toUInt32 31)).toInt32.toInt) &&& Int32.ofInt 1431655765).toInt)) &&& Int32.ofInt 858993459).toInt) + ((Int32.ofInt (((Int32.ofInt (a0 - ((Int32.ofInt (((Int32.ofInt a0).toUInt32 >>> ((Int32.ofInt 1).toUInt32 &&& Int32.toUInt32 31)).toInt32.toInt) &&& Int32.ofInt 1431655765).toInt))).toUInt32 >>> ((Int32.ofInt 2).toUInt32 &&& Int32.toUInt32 31)).toInt32.toInt) &&& Int32.ofInt 858993459).toInt))).toUInt32 >>> ((Int32.ofInt 4).toUInt32 &&& Int32.toUInt32 31)).toInt32.toInt)) &&& Int32.ofInt 252645135).toInt) + (((Int32.ofInt ((Int32.ofInt ((((Int32.ofInt (a0 - ((Int32.ofInt (((Int32.ofInt a0).toUInt32 >>> ((Int32.ofInt 1).toUInt32 &&& Int32.toUInt32 31)).toInt32.toInt) &&& Int32.ofInt 1431655765).toInt)) &&& Int32.ofInt 858993459).toInt) + ((Int32.ofInt (((Int32.ofInt (a0 - ((Int32.ofInt (((Int32.ofInt a0).toUInt32 >>> ((Int32.ofInt 1).toUInt32 &&& Int32.toUInt32 31)).toInt32.toInt) &&& Int32.ofInt 1431655765).toInt))).toUInt32 >>> ((Int32.ofInt 2).toUInt32 &&& Int32.toUInt32 31)).toInt32.toInt) &&& Int32.ofInt 858993459).toInt)) + (((Int32.ofInt (((Int32.ofInt (a0 - ((Int32.ofInt (((Int32.ofInt a0).toUInt32 >>> ((Int32.ofInt 1).toUInt32 &&& Int32.toUInt32 31)).toInt32.toInt) &&& Int32.ofInt 1431655765).toInt)) &&& Int32.ofInt 858993459).toInt) + ((Int32.ofInt (((Int32.ofInt (a0 - ((Int32.ofInt (((Int32.ofInt a0).toUInt32 >>> ((Int32.ofInt 1).toUInt32 &&& Int32.toUInt32 31)).toInt32.toInt) &&& Int32.ofInt 1431655765).toInt))).toUInt32 >>> ((Int32.ofInt 2).toUInt32 &&& Int32.toUInt32 31)).toInt32.toInt) &&& Int32.ofInt 858993459).toInt))).toUInt32 >>> ((Int32.ofInt 4).toUInt32 &&& Int32.toUInt32 31)).toInt32.toInt)) &&& Int32.ofInt 252645135).toInt)).toUInt32 >>> ((Int32.ofInt 8).toUInt32 &&& Int32.toUInt32 31)).toInt32.toInt)) + (((Int32.ofInt (((Int32.ofInt ((((Int32.ofInt (a0 - ((Int32.ofInt (((Int32.ofInt a0).toUInt32 >>> ((Int32.ofInt 1).toUInt32 &&& Int32.toUInt32 31)).toInt32.toInt) &&& Int32.ofInt 1431655765).toInt)) &&& Int32.ofInt 858993459).toInt) + ((Int32.ofInt (((Int32.ofInt (a0 - ((Int32.ofInt (((Int32.ofInt a0).toUInt32 >>> ((Int32.ofInt 1).toUInt32 &&& Int32.toUInt32 31)).toInt32.toInt) &&& Int32.ofInt 1431655765).toInt))).toUInt32 >>> ((Int32.ofInt 2).toUInt32 &&& Int32.toUInt32 31)).toInt32.toInt) &&& Int32.ofInt 858993459).toInt)) + (((Int32.ofInt (((Int32.ofInt (a0 - ((Int32.ofInt (((Int32.ofInt a0).toUInt32 >>> ((Int32.ofInt 1).toUInt32 &&& Int32.toUInt32 31)).toInt32.toInt) &&& Int32.ofInt 1431655765).toInt)) &&& Int32.ofInt 858993459).toInt) + ((Int32.ofInt (((Int32.ofInt (a0 - ((Int32.ofInt (((Int32.ofInt a0).toUInt32 >>> ((Int32.ofInt 1).toUInt32 &&& Int32.toUInt32 31)).toInt32.toInt) &&& Int32.ofInt 1431655765).toInt))).toUInt32 >>> ((Int32.ofInt 2).toUInt32 &&& Int32.toUInt32 31)).toInt32.toInt) &&& Int32.ofInt 858993459).toInt))).toUInt32 >>> ((Int32.ofInt 4).toUInt32 &&& Int32.toUInt32 31)).toInt32.toInt)) &&& Int32.ofInt 252645135).toInt) + (((Int32.ofInt ((Int32.ofInt ((((Int32.ofInt (a0 - ((Int32.ofInt (((Int32.ofInt a0).toUInt32 >>> ((Int32.ofInt 1).toUInt32 &&& Int32.toUInt32 31)).toInt32.toInt) &&& Int32.ofInt 1431655765).toInt)) &&& Int32.ofInt 858993459).toInt) + ((Int32.ofInt (((Int32.ofInt (a0 - ((Int32.ofInt (((Int32.ofInt a0).toUInt32 >>> ((Int32.ofInt 1).toUInt32 &&& Int32.toUInt32 31)).toInt32.toInt) &&& Int32.ofInt 1431655765).toInt))).toUInt32 >>> ((Int32.ofInt 2).toUInt32 &&& Int32.toUInt32 31)).toInt32.toInt) &&& Int32.ofInt 858993459).toInt)) + (((Int32.ofInt (((Int32.ofInt (a0 - ((Int32.ofInt (((Int32.ofInt a0).toUInt32 >>> ((Int32.ofInt 1).toUInt32 &&& Int32.toUInt32 31)).toInt32.toInt) &&& Int32.ofInt 1431655765).toInt)) &&& Int32.ofInt 858993459).toInt) + ((Int32.ofInt (((Int32.ofInt (a0 - ((Int32.ofInt (((Int32.ofInt a0).toUInt32 >>> ((Int32.ofInt 1).toUInt32 &&& Int32.toUInt32 31)).toInt32.toInt) &&& Int32.ofInt 1431655765).toInt))).toUInt32 >>> ((Int32.ofInt 2).toUInt32 &&& Int32.toUInt32 31)).toInt32.toInt) &&& Int32.ofInt 858993459).toInt))).toUInt32 >>> ((Int32.ofInt 4).toUInt32 &&& Int32.toUInt32 31)).toInt32.toInt)) &&& Int32.ofInt 252645135).toInt)).toUInt32 >>> ((Int32.ofInt 8).toUInt32 &&& Int32.toUInt32 31)).toInt32.toInt))).toUInt32 >>> ((Int32.ofInt 16).toUInt32 &&& Int32.toUInt32 31)).toInt32.toInt)) &&& Int32.ofInt 63).toInt))) (by decide) am_m200 rfl ⟨_, rfl, Or.inl rfl, rfl⟩ H
