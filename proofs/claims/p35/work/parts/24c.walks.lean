/-! the methods walked, by program (wip/p35/sym.py) -/
set_option maxRecDepth 100000 in
set_option maxHeartbeats 4000000 in
theorem T122_0 {S L : Nat} {F G : Nat → Nat → Int} {h : Nat → Nat → Option Nat} (hh : RfH h) {a1 : Int}  {Q : Option V2 → W2 → Prop}
    (H : C121_0  (Wd S L F G h) (fun v w1 => ∃ (v1 : Int) (F2 : Nat → Nat → Int), v = some (vj v1) ∧ w1 = (Wd S L F2 G h) ∧
  C75_0 10 (Wd S L F2 G h) (fun v w1 => ∃ (v3 : Int) (F4 : Nat → Nat → Int), v = some (vi v3) ∧ w1 = (Wd S L F4 G h) ∧
   C89_0 a1 (Wd S L F4 G h) (fun v w1 => ∃ (v5 : Int) (F6 : Nat → Nat → Int), v = some (vi v5) ∧ w1 = (Wd S L F6 G h) ∧
    (R32 v5 ∧
    v5 = 1 ∧
    C90_0  (Wd S L F6 G h) (fun v w1 => ∃ (v9 : Int) (F10 : Nat → Nat → Int), v = some (vi v9) ∧ w1 = (Wd S L F10 G h) ∧
     (R32 v9 ∧
     v9 = 1 ∧
     C87_0 8 (Wd S L F10 G h) (fun v w1 => ∃ (v13 : Int) (F14 : Nat → Nat → Int) (h15 : Nat → Nat → Option Nat), v = some (vi v13) ∧ w1 = (Wd S L F14 G h15) ∧ RfH h15 ∧
      C121_0  (Wd S L F14 G h15) (fun v w1 => ∃ (v17 : Int) (F18 : Nat → Nat → Int), v = some (vj v17) ∧ w1 = (Wd S L F18 G h15) ∧
       C75_0 0 (Wd S L F18 G h15) (fun v w1 => ∃ (v19 : Int) (F20 : Nat → Nat → Int), v = some (vi v19) ∧ w1 = (Wd S L F20 G h15) ∧
        (R32 v13 ∧
        R32 v19 ∧
        v13 = v19 ∧
        C75_0 10 (Wd S L F20 G h15) (fun v w1 => ∃ (v24 : Int) (F25 : Nat → Nat → Int), v = some (vi v24) ∧ w1 = (Wd S L F25 G h15) ∧
         (R32 v24 ∧
         v24 = 6 ∧
         C91_0  (Wd S L F25 G h15) (fun v w1 => ∃ (v28 : Int) (F29 : Nat → Nat → Int), v = some (vi v28) ∧ w1 = (Wd S L F29 G h15) ∧
          (R32 v28 ∧
          v28 = 1 ∧
          C121_0  (Wd S L F29 G h15) (fun v w1 => ∃ (v32 : Int) (F33 : Nat → Nat → Int), v = some (vj v32) ∧ w1 = (Wd S L F33 G h15) ∧
           (v32 = v1 ∧
           C75_0 10 (Wd S L F33 G h15) (fun v w1 => ∃ (v35 : Int) (F36 : Nat → Nat → Int), v = some (vi v35) ∧ w1 = (Wd S L F36 G h15) ∧
            (R32 v35 ∧
            R32 v3 ∧
            v35 = v3 ∧
            C87_0 3 (Wd S L F36 G h15) (fun v w1 => ∃ (v40 : Int) (F41 : Nat → Nat → Int) (h42 : Nat → Nat → Option Nat), v = some (vi v40) ∧ w1 = (Wd S L F41 G h42) ∧ RfH h42 ∧
             (R32 v40 ∧
             ¬ (v40 < 0) ∧
             C87_0 5 (Wd S L F41 G h42) (fun v w1 => ∃ (v46 : Int) (F47 : Nat → Nat → Int) (h48 : Nat → Nat → Option Nat), v = some (vi v46) ∧ w1 = (Wd S L F47 G h48) ∧ RfH h48 ∧
              (R32 v46 ∧
              v46 = v13 ∧
              C121_0  (Wd S L F47 G h48) (fun v w1 => ∃ (v52 : Int) (F53 : Nat → Nat → Int), v = some (vj v52) ∧ w1 = (Wd S L F53 G h48) ∧
               (v52 = v17 ∧
               C122_143 a1 v1 5 (Wd S L F53 G h48) Q))))))))))))))))))))))))) : C122_0 a1 (Wd S L F G h) Q := by
  refine pt122 (s' := (1, [some (vr 0), some (vi a1), none, none, none, none, none, none, none, none, none], [vr 0], (Wd S L F G h))) (by decide) [0] rfl trivial ?_
  refine wp.cl am_m122 rfl am_m121 12 [vr 0] [] rfl (Nat.le_of_ble_eq_true rfl) ⟨(Nat.le_of_ble_eq_true rfl), (Nat.le_of_ble_eq_true rfl)⟩ rfl (Nat.le_of_ble_eq_true rfl) rfl (Nat.le_of_ble_eq_true rfl) (Nat.le_of_ble_eq_true rfl) trivial ?_
  refine wp.mono H ?_
  rintro v w1 ⟨v1, F2, rfl, rfl, H⟩
  show wp 13 122 (4, [some (vr 0), some (vi a1), none, none, none, none, none, none, none, none, none], [vj v1], (Wd S L F2 G h)) _
  refine pt122 (s' := (8, [some (vr 0), some (vi a1), some (vj v1), none, none, none, none, none, none, none, none], [vi 10, vr 0], (Wd S L F2 G h))) (by decide) [0, 0, 0] rfl trivial ?_
  refine wp.cl am_m122 rfl am_m75 11 [vr 0, vi 10] [] rfl (Nat.le_of_ble_eq_true rfl) ⟨(Nat.le_of_ble_eq_true rfl), (Nat.le_of_ble_eq_true rfl)⟩ rfl (Nat.le_of_ble_eq_true rfl) rfl (Nat.le_of_ble_eq_true rfl) (Nat.le_of_ble_eq_true rfl) ⟨_, _, rfl, Nat.le_of_ble_eq_true rfl, rfl⟩ ?_
  refine wp.mono H ?_
  rintro v w1 ⟨v3, F4, rfl, rfl, H⟩
  show wp 13 122 (11, [some (vr 0), some (vi a1), some (vj v1), none, none, none, none, none, none, none, none], [vi v3], (Wd S L F4 G h)) _
  refine pt122 (s' := (15, [some (vr 0), some (vi a1), some (vj v1), none, some (vi v3), none, none, none, none, none, none], [vi a1, vr 0], (Wd S L F4 G h))) (by decide) [0, 0, 0] rfl trivial ?_
  refine wp.cl am_m122 rfl am_m89 6 [vr 0, vi a1] [] rfl (Nat.le_of_ble_eq_true rfl) ⟨(Nat.le_of_ble_eq_true rfl), (Nat.le_of_ble_eq_true rfl)⟩ rfl (Nat.le_of_ble_eq_true rfl) rfl (Nat.le_of_ble_eq_true rfl) (Nat.le_of_ble_eq_true rfl) ⟨_, _, rfl, Nat.le_of_ble_eq_true rfl, rfl⟩ ?_
  refine wp.mono H ?_
  rintro v w1 ⟨v5, F6, rfl, rfl, H⟩
  show wp 13 122 (18, [some (vr 0), some (vi a1), some (vj v1), none, some (vi v3), none, none, none, none, none, none], [vi v5], (Wd S L F6 G h)) _
  obtain ⟨g7, H⟩ := H
  obtain ⟨g8, H⟩ := H
  refine pt122 (s' := (23, [some (vr 0), some (vi a1), some (vj v1), none, some (vi v3), none, none, none, none, none, none], [vr 0], (Wd S L F6 G h))) (by decide) [0, 0, 0] rfl ⟨trivial, ⟨⟨g7, (by decide : R32 1)⟩, g8⟩⟩ ?_
  refine wp.cl am_m122 rfl am_m90 8 [vr 0] [] rfl (Nat.le_of_ble_eq_true rfl) ⟨(Nat.le_of_ble_eq_true rfl), (Nat.le_of_ble_eq_true rfl)⟩ rfl (Nat.le_of_ble_eq_true rfl) rfl (Nat.le_of_ble_eq_true rfl) (Nat.le_of_ble_eq_true rfl) ⟨_, _, rfl, Nat.le_of_ble_eq_true rfl, rfl⟩ ?_
  refine wp.mono H ?_
  rintro v w1 ⟨v9, F10, rfl, rfl, H⟩
  show wp 13 122 (26, [some (vr 0), some (vi a1), some (vj v1), none, some (vi v3), none, none, none, none, none, none], [vi v9], (Wd S L F10 G h)) _
  obtain ⟨g11, H⟩ := H
  obtain ⟨g12, H⟩ := H
  refine pt122 (s' := (40, [some (vr 0), some (vi a1), some (vj v1), none, some (vi v3), some (vi 1), none, none, none, none, none], [vi 8, vr 0], (Wd S L F10 G h))) (by decide) [0, 0, 0, 0, 0, 0, 0] rfl ⟨trivial, ⟨⟨g11, (by decide : R32 1)⟩, g12⟩⟩ ?_
  refine wp.cl am_m122 rfl am_m87 11 [vr 0, vi 8] [] rfl (Nat.le_of_ble_eq_true rfl) ⟨(Nat.le_of_ble_eq_true rfl), (Nat.le_of_ble_eq_true rfl)⟩ rfl (Nat.le_of_ble_eq_true rfl) rfl (Nat.le_of_ble_eq_true rfl) (Nat.le_of_ble_eq_true rfl) ⟨_, _, rfl, Nat.le_of_ble_eq_true rfl, rfl⟩ ?_
  refine wp.mono H ?_
  rintro v w1 ⟨v13, F14, h15, rfl, rfl, r16, H⟩
  show wp 13 122 (43, [some (vr 0), some (vi a1), some (vj v1), none, some (vi v3), some (vi 1), none, none, none, none, none], [vi v13], (Wd S L F14 G h15)) _
  refine pt122 (s' := (46, [some (vr 0), some (vi a1), some (vj v1), none, some (vi v3), some (vi 1), some (vi v13), none, none, none, none], [vr 0], (Wd S L F14 G h15))) (by decide) [0, 0] rfl trivial ?_
  refine wp.cl am_m122 rfl am_m121 12 [vr 0] [] rfl (Nat.le_of_ble_eq_true rfl) ⟨(Nat.le_of_ble_eq_true rfl), (Nat.le_of_ble_eq_true rfl)⟩ rfl (Nat.le_of_ble_eq_true rfl) rfl (Nat.le_of_ble_eq_true rfl) (Nat.le_of_ble_eq_true rfl) trivial ?_
  refine wp.mono H ?_
  rintro v w1 ⟨v17, F18, rfl, rfl, H⟩
  show wp 13 122 (49, [some (vr 0), some (vi a1), some (vj v1), none, some (vi v3), some (vi 1), some (vi v13), none, none, none, none], [vj v17], (Wd S L F18 G h15)) _
  refine pt122 (s' := (60, [some (vr 0), some (vi a1), some (vj v1), none, some (vi v3), some (vi 1), some (vi v13), some (vj v17), none, none, none], [vi 0, vr 0, vi v13], (Wd S L F18 G h15))) (by decide) [0, 0, 0, 0, 0, 0] rfl ⟨trivial, ⟨(by decide : R32 1), (by decide : ¬ (1 : Int) = (0 : Int))⟩⟩ ?_
  refine wp.cl am_m122 rfl am_m75 11 [vr 0, vi 0] [vi v13] rfl (Nat.le_of_ble_eq_true rfl) ⟨(Nat.le_of_ble_eq_true rfl), (Nat.le_of_ble_eq_true rfl)⟩ rfl (Nat.le_of_ble_eq_true rfl) rfl (Nat.le_of_ble_eq_true rfl) (Nat.le_of_ble_eq_true rfl) ⟨_, _, rfl, Nat.le_of_ble_eq_true rfl, rfl⟩ ?_
  refine wp.mono H ?_
  rintro v w1 ⟨v19, F20, rfl, rfl, H⟩
  show wp 13 122 (63, [some (vr 0), some (vi a1), some (vj v1), none, some (vi v3), some (vi 1), some (vi v13), some (vj v17), none, none, none], [vi v19, vi v13], (Wd S L F20 G h15)) _
  obtain ⟨g21, H⟩ := H
  obtain ⟨g22, H⟩ := H
  obtain ⟨g23, H⟩ := H
  refine pt122 (s' := (69, [some (vr 0), some (vi a1), some (vj v1), none, some (vi v3), some (vi 1), some (vi v13), some (vj v17), none, none, none], [vi 10, vr 0], (Wd S L F20 G h15))) (by decide) [0, 0, 0] rfl ⟨trivial, ⟨⟨g21, g22⟩, g23⟩⟩ ?_
  refine wp.cl am_m122 rfl am_m75 11 [vr 0, vi 10] [] rfl (Nat.le_of_ble_eq_true rfl) ⟨(Nat.le_of_ble_eq_true rfl), (Nat.le_of_ble_eq_true rfl)⟩ rfl (Nat.le_of_ble_eq_true rfl) rfl (Nat.le_of_ble_eq_true rfl) (Nat.le_of_ble_eq_true rfl) ⟨_, _, rfl, Nat.le_of_ble_eq_true rfl, rfl⟩ ?_
  refine wp.mono H ?_
  rintro v w1 ⟨v24, F25, rfl, rfl, H⟩
  show wp 13 122 (72, [some (vr 0), some (vi a1), some (vj v1), none, some (vi v3), some (vi 1), some (vi v13), some (vj v17), none, none, none], [vi v24], (Wd S L F25 G h15)) _
  obtain ⟨g26, H⟩ := H
  obtain ⟨g27, H⟩ := H
  refine pt122 (s' := (78, [some (vr 0), some (vi a1), some (vj v1), none, some (vi v3), some (vi 1), some (vi v13), some (vj v17), none, none, none], [vr 0], (Wd S L F25 G h15))) (by decide) [0, 0, 0] rfl ⟨trivial, ⟨⟨g26, (by decide : R32 6)⟩, g27⟩⟩ ?_
  refine wp.cl am_m122 rfl am_m91 8 [vr 0] [] rfl (Nat.le_of_ble_eq_true rfl) ⟨(Nat.le_of_ble_eq_true rfl), (Nat.le_of_ble_eq_true rfl)⟩ rfl (Nat.le_of_ble_eq_true rfl) rfl (Nat.le_of_ble_eq_true rfl) (Nat.le_of_ble_eq_true rfl) ⟨_, _, rfl, Nat.le_of_ble_eq_true rfl, rfl⟩ ?_
  refine wp.mono H ?_
  rintro v w1 ⟨v28, F29, rfl, rfl, H⟩
  show wp 13 122 (81, [some (vr 0), some (vi a1), some (vj v1), none, some (vi v3), some (vi 1), some (vi v13), some (vj v17), none, none, none], [vi v28], (Wd S L F29 G h15)) _
  obtain ⟨g30, H⟩ := H
  obtain ⟨g31, H⟩ := H
  refine pt122 (s' := (86, [some (vr 0), some (vi a1), some (vj v1), none, some (vi v3), some (vi 1), some (vi v13), some (vj v17), none, none, none], [vr 0], (Wd S L F29 G h15))) (by decide) [0, 0, 0] rfl ⟨trivial, ⟨⟨g30, (by decide : R32 1)⟩, g31⟩⟩ ?_
  refine wp.cl am_m122 rfl am_m121 12 [vr 0] [] rfl (Nat.le_of_ble_eq_true rfl) ⟨(Nat.le_of_ble_eq_true rfl), (Nat.le_of_ble_eq_true rfl)⟩ rfl (Nat.le_of_ble_eq_true rfl) rfl (Nat.le_of_ble_eq_true rfl) (Nat.le_of_ble_eq_true rfl) trivial ?_
  refine wp.mono H ?_
  rintro v w1 ⟨v32, F33, rfl, rfl, H⟩
  show wp 13 122 (89, [some (vr 0), some (vi a1), some (vj v1), none, some (vi v3), some (vi 1), some (vi v13), some (vj v17), none, none, none], [vj v32], (Wd S L F33 G h15)) _
  obtain ⟨g34, H⟩ := H
  refine pt122 (s' := (97, [some (vr 0), some (vi a1), some (vj v1), none, some (vi v3), some (vi 1), some (vi v13), some (vj v17), none, none, none], [vi 10, vr 0], (Wd S L F33 G h15))) (by decide) [0, 0, 0, 0, 0] rfl ⟨⟨trivial, (Or.inr g34)⟩, ⟨y_cmp_r32, (y_cmp_eq.mpr g34)⟩⟩ ?_
  refine wp.cl am_m122 rfl am_m75 11 [vr 0, vi 10] [] rfl (Nat.le_of_ble_eq_true rfl) ⟨(Nat.le_of_ble_eq_true rfl), (Nat.le_of_ble_eq_true rfl)⟩ rfl (Nat.le_of_ble_eq_true rfl) rfl (Nat.le_of_ble_eq_true rfl) (Nat.le_of_ble_eq_true rfl) ⟨_, _, rfl, Nat.le_of_ble_eq_true rfl, rfl⟩ ?_
  refine wp.mono H ?_
  rintro v w1 ⟨v35, F36, rfl, rfl, H⟩
  show wp 13 122 (100, [some (vr 0), some (vi a1), some (vj v1), none, some (vi v3), some (vi 1), some (vi v13), some (vj v17), none, none, none], [vi v35], (Wd S L F36 G h15)) _
  obtain ⟨g37, H⟩ := H
  obtain ⟨g38, H⟩ := H
  obtain ⟨g39, H⟩ := H
  refine pt122 (s' := (107, [some (vr 0), some (vi a1), some (vj v1), none, some (vi v3), some (vi 1), some (vi v13), some (vj v17), none, none, none], [vi 3, vr 0], (Wd S L F36 G h15))) (by decide) [0, 0, 0, 0] rfl ⟨trivial, ⟨⟨g37, g38⟩, g39⟩⟩ ?_
  refine wp.cl am_m122 rfl am_m87 11 [vr 0, vi 3] [] rfl (Nat.le_of_ble_eq_true rfl) ⟨(Nat.le_of_ble_eq_true rfl), (Nat.le_of_ble_eq_true rfl)⟩ rfl (Nat.le_of_ble_eq_true rfl) rfl (Nat.le_of_ble_eq_true rfl) (Nat.le_of_ble_eq_true rfl) ⟨_, _, rfl, Nat.le_of_ble_eq_true rfl, rfl⟩ ?_
  refine wp.mono H ?_
  rintro v w1 ⟨v40, F41, h42, rfl, rfl, r43, H⟩
  show wp 13 122 (110, [some (vr 0), some (vi a1), some (vj v1), none, some (vi v3), some (vi 1), some (vi v13), some (vj v17), none, none, none], [vi v40], (Wd S L F41 G h42)) _
  obtain ⟨g44, H⟩ := H
  obtain ⟨g45, H⟩ := H
  refine pt122 (s' := (115, [some (vr 0), some (vi a1), some (vj v1), none, some (vi v3), some (vi 1), some (vi v13), some (vj v17), none, none, none], [vi 5, vr 0], (Wd S L F41 G h42))) (by decide) [0, 0, 0] rfl ⟨trivial, ⟨g44, g45⟩⟩ ?_
  refine wp.cl am_m122 rfl am_m87 11 [vr 0, vi 5] [] rfl (Nat.le_of_ble_eq_true rfl) ⟨(Nat.le_of_ble_eq_true rfl), (Nat.le_of_ble_eq_true rfl)⟩ rfl (Nat.le_of_ble_eq_true rfl) rfl (Nat.le_of_ble_eq_true rfl) (Nat.le_of_ble_eq_true rfl) ⟨_, _, rfl, Nat.le_of_ble_eq_true rfl, rfl⟩ ?_
  refine wp.mono H ?_
  rintro v w1 ⟨v46, F47, h48, rfl, rfl, r49, H⟩
  show wp 13 122 (118, [some (vr 0), some (vi a1), some (vj v1), none, some (vi v3), some (vi 1), some (vi v13), some (vj v17), none, none, none], [vi v46], (Wd S L F47 G h48)) _
  obtain ⟨g50, H⟩ := H
  obtain ⟨g51, H⟩ := H
  refine pt122 (s' := (124, [some (vr 0), some (vi a1), some (vj v1), none, some (vi v3), some (vi 1), some (vi v13), some (vj v17), none, none, none], [vr 0], (Wd S L F47 G h48))) (by decide) [0, 0, 0] rfl ⟨trivial, ⟨⟨g50, g21⟩, g51⟩⟩ ?_
  refine wp.cl am_m122 rfl am_m121 12 [vr 0] [] rfl (Nat.le_of_ble_eq_true rfl) ⟨(Nat.le_of_ble_eq_true rfl), (Nat.le_of_ble_eq_true rfl)⟩ rfl (Nat.le_of_ble_eq_true rfl) rfl (Nat.le_of_ble_eq_true rfl) (Nat.le_of_ble_eq_true rfl) trivial ?_
  refine wp.mono H ?_
  rintro v w1 ⟨v52, F53, rfl, rfl, H⟩
  show wp 13 122 (127, [some (vr 0), some (vi a1), some (vj v1), none, some (vi v3), some (vi 1), some (vi v13), some (vj v17), none, none, none], [vj v52], (Wd S L F53 G h48)) _
  obtain ⟨g54, H⟩ := H
  refine pt122 (s' := (143, [some (vr 0), some (vi a1), some (vj v1), none, some (vi v3), some (vi 1), some (vi v13), some (vj v17), none, some (vi 5), none], [], (Wd S L F53 G h48))) (by decide) [0, 0, 0, 0, 0, 0, 0, 0] rfl ⟨⟨trivial, (Or.inr g54)⟩, ⟨y_cmp_r32, (y_cmp_eq.mpr g54)⟩⟩ ?_
  exact wp.weak (a := [some (vr 0), some (vi a1), some (vj v1), none, none, some (vi 1), none, none, none, some (vi 5), none]) ⟨rfl, rfl, rfl, rfl, rfl, trivial⟩ H
set_option maxRecDepth 100000 in
set_option maxHeartbeats 4000000 in
theorem T122_143 {S L : Nat} {F G : Nat → Nat → Int} {h : Nat → Nat → Option Nat} (hh : RfH h) {x1 : Int} {x2 : Int} {x9 : Int}  {Q : Option V2 → W2 → Prop}
    (H : (R32 x9 ∧
 (if x9 < 0 then
  C121_0  (Wd S L F G h) (fun v w1 => ∃ (v3 : Int) (F4 : Nat → Nat → Int), v = some (vj v3) ∧ w1 = (Wd S L F4 G h) ∧
   C88_0  (Wd S L F4 G h) (fun v w1 => ∃ (v5 : Int) (F6 : Nat → Nat → Int), v = some (vi v5) ∧ w1 = (Wd S L F6 G h) ∧
    (R32 v5 ∧
    v5 = (-4) ∧
    C91_0  (Wd S L F6 G h) (fun v w1 => ∃ (v9 : Int) (F10 : Nat → Nat → Int), v = some (vi v9) ∧ w1 = (Wd S L F10 G h) ∧
     (R32 v9 ∧
     v9 = 1 ∧
     C87_0 2 (Wd S L F10 G h) (fun v w1 => ∃ (v13 : Int) (F14 : Nat → Nat → Int) (h15 : Nat → Nat → Option Nat), v = some (vi v13) ∧ w1 = (Wd S L F14 G h15) ∧ RfH h15 ∧
      (R32 v13 ∧
      ¬ (v13 < 0) ∧
      C121_0  (Wd S L F14 G h15) (fun v w1 => ∃ (v19 : Int) (F20 : Nat → Nat → Int), v = some (vj v19) ∧ w1 = (Wd S L F20 G h15) ∧
       (v19 = v3 ∧
       C91_0  (Wd S L F20 G h15) (fun v w1 => ∃ (v22 : Int) (F23 : Nat → Nat → Int), v = some (vi v22) ∧ w1 = (Wd S L F23 G h15) ∧
        (R32 v22 ∧
        v22 = 1 ∧
        C121_0  (Wd S L F23 G h15) (fun v w1 => ∃ (v26 : Int) (F27 : Nat → Nat → Int), v = some (vj v26) ∧ w1 = (Wd S L F27 G h15) ∧
         (v26 = x2 ∧
         C89_0 5 (Wd S L F27 G h15) (fun v w1 => ∃ (v29 : Int) (F30 : Nat → Nat → Int), v = some (vi v29) ∧ w1 = (Wd S L F30 G h15) ∧
          (R32 v29 ∧
          R32 x1 ∧
          v29 = x1 ∧
          Q (some (vi 1)) (Wd S L F30 G h15))))))))))))))))
 else
  C88_0  (Wd S L F G h) (fun v w1 => ∃ (v34 : Int) (F35 : Nat → Nat → Int), v = some (vi v34) ∧ w1 = (Wd S L F35 G h) ∧
   (R32 v34 ∧
   v34 = x9 ∧
   C122_143 x1 x2 (x9 + (-1)) (Wd S L F35 G h) Q))))) : C122_143 x1 x2 x9 (Wd S L F G h) Q := by
  obtain ⟨g1, H⟩ := H
  refine pt122 (s' := (145, [some (vr 0), some (vi x1), some (vj x2), none, none, some (vi 1), none, none, none, some (vi x9), none], [vi x9], (Wd S L F G h))) (by decide) [0] rfl trivial ?_
  by_cases c2 : x9 < 0
  · rw [if_pos c2] at H
    refine pt122 (s' := (176, [some (vr 0), some (vi x1), some (vj x2), none, none, some (vi 1), none, none, none, some (vi x9), none], [vr 0], (Wd S L F G h))) (by decide) [1, 0] rfl ⟨trivial, ⟨g1, c2⟩⟩ ?_
    refine wp.cl am_m122 rfl am_m121 12 [vr 0] [] rfl (Nat.le_of_ble_eq_true rfl) ⟨(Nat.le_of_ble_eq_true rfl), (Nat.le_of_ble_eq_true rfl)⟩ rfl (Nat.le_of_ble_eq_true rfl) rfl (Nat.le_of_ble_eq_true rfl) (Nat.le_of_ble_eq_true rfl) trivial ?_
    refine wp.mono H ?_
    rintro v w1 ⟨v3, F4, rfl, rfl, H⟩
    show wp 13 122 (179, [some (vr 0), some (vi x1), some (vj x2), none, none, some (vi 1), none, none, none, some (vi x9), none], [vj v3], (Wd S L F4 G h)) _
    refine pt122 (s' := (187, [some (vr 0), some (vi x1), some (vj x2), none, none, some (vi 1), none, none, none, some (vj v3), none], [vr 0], (Wd S L F4 G h))) (by decide) [0, 0, 0, 0] rfl ⟨trivial, ⟨(by decide : R32 1), (by decide : ¬ (1 : Int) = (0 : Int))⟩⟩ ?_
    refine wp.cl am_m122 rfl am_m88 8 [vr 0] [] rfl (Nat.le_of_ble_eq_true rfl) ⟨(Nat.le_of_ble_eq_true rfl), (Nat.le_of_ble_eq_true rfl)⟩ rfl (Nat.le_of_ble_eq_true rfl) rfl (Nat.le_of_ble_eq_true rfl) (Nat.le_of_ble_eq_true rfl) ⟨_, _, rfl, Nat.le_of_ble_eq_true rfl, rfl⟩ ?_
    refine wp.mono H ?_
    rintro v w1 ⟨v5, F6, rfl, rfl, H⟩
    show wp 13 122 (190, [some (vr 0), some (vi x1), some (vj x2), none, none, some (vi 1), none, none, none, some (vj v3), none], [vi v5], (Wd S L F6 G h)) _
    obtain ⟨g7, H⟩ := H
    obtain ⟨g8, H⟩ := H
    refine pt122 (s' := (196, [some (vr 0), some (vi x1), some (vj x2), none, none, some (vi 1), none, none, none, some (vj v3), none], [vr 0], (Wd S L F6 G h))) (by decide) [0, 0, 0] rfl ⟨trivial, ⟨⟨g7, (by decide : R32 (-4))⟩, g8⟩⟩ ?_
    refine wp.cl am_m122 rfl am_m91 8 [vr 0] [] rfl (Nat.le_of_ble_eq_true rfl) ⟨(Nat.le_of_ble_eq_true rfl), (Nat.le_of_ble_eq_true rfl)⟩ rfl (Nat.le_of_ble_eq_true rfl) rfl (Nat.le_of_ble_eq_true rfl) (Nat.le_of_ble_eq_true rfl) ⟨_, _, rfl, Nat.le_of_ble_eq_true rfl, rfl⟩ ?_
    refine wp.mono H ?_
    rintro v w1 ⟨v9, F10, rfl, rfl, H⟩
    show wp 13 122 (199, [some (vr 0), some (vi x1), some (vj x2), none, none, some (vi 1), none, none, none, some (vj v3), none], [vi v9], (Wd S L F10 G h)) _
    obtain ⟨g11, H⟩ := H
    obtain ⟨g12, H⟩ := H
    refine pt122 (s' := (205, [some (vr 0), some (vi x1), some (vj x2), none, none, some (vi 1), none, none, none, some (vj v3), none], [vi 2, vr 0], (Wd S L F10 G h))) (by decide) [0, 0, 0, 0] rfl ⟨trivial, ⟨⟨g11, (by decide : R32 1)⟩, g12⟩⟩ ?_
    refine wp.cl am_m122 rfl am_m87 11 [vr 0, vi 2] [] rfl (Nat.le_of_ble_eq_true rfl) ⟨(Nat.le_of_ble_eq_true rfl), (Nat.le_of_ble_eq_true rfl)⟩ rfl (Nat.le_of_ble_eq_true rfl) rfl (Nat.le_of_ble_eq_true rfl) (Nat.le_of_ble_eq_true rfl) ⟨_, _, rfl, Nat.le_of_ble_eq_true rfl, rfl⟩ ?_
    refine wp.mono H ?_
    rintro v w1 ⟨v13, F14, h15, rfl, rfl, r16, H⟩
    show wp 13 122 (208, [some (vr 0), some (vi x1), some (vj x2), none, none, some (vi 1), none, none, none, some (vj v3), none], [vi v13], (Wd S L F14 G h15)) _
    obtain ⟨g17, H⟩ := H
    obtain ⟨g18, H⟩ := H
    refine pt122 (s' := (212, [some (vr 0), some (vi x1), some (vj x2), none, none, some (vi 1), none, none, none, some (vj v3), none], [vr 0], (Wd S L F14 G h15))) (by decide) [0, 0] rfl ⟨trivial, ⟨g17, g18⟩⟩ ?_
    refine wp.cl am_m122 rfl am_m121 12 [vr 0] [] rfl (Nat.le_of_ble_eq_true rfl) ⟨(Nat.le_of_ble_eq_true rfl), (Nat.le_of_ble_eq_true rfl)⟩ rfl (Nat.le_of_ble_eq_true rfl) rfl (Nat.le_of_ble_eq_true rfl) (Nat.le_of_ble_eq_true rfl) trivial ?_
    refine wp.mono H ?_
    rintro v w1 ⟨v19, F20, rfl, rfl, H⟩
    show wp 13 122 (215, [some (vr 0), some (vi x1), some (vj x2), none, none, some (vi 1), none, none, none, some (vj v3), none], [vj v19], (Wd S L F20 G h15)) _
    obtain ⟨g21, H⟩ := H
    refine pt122 (s' := (222, [some (vr 0), some (vi x1), some (vj x2), none, none, some (vi 1), none, none, none, some (vj v3), none], [vr 0], (Wd S L F20 G h15))) (by decide) [0, 0, 0, 0] rfl ⟨⟨trivial, (Or.inr g21)⟩, ⟨y_cmp_r32, (y_cmp_eq.mpr g21)⟩⟩ ?_
    refine wp.cl am_m122 rfl am_m91 8 [vr 0] [] rfl (Nat.le_of_ble_eq_true rfl) ⟨(Nat.le_of_ble_eq_true rfl), (Nat.le_of_ble_eq_true rfl)⟩ rfl (Nat.le_of_ble_eq_true rfl) rfl (Nat.le_of_ble_eq_true rfl) (Nat.le_of_ble_eq_true rfl) ⟨_, _, rfl, Nat.le_of_ble_eq_true rfl, rfl⟩ ?_
    refine wp.mono H ?_
    rintro v w1 ⟨v22, F23, rfl, rfl, H⟩
    show wp 13 122 (225, [some (vr 0), some (vi x1), some (vj x2), none, none, some (vi 1), none, none, none, some (vj v3), none], [vi v22], (Wd S L F23 G h15)) _
    obtain ⟨g24, H⟩ := H
    obtain ⟨g25, H⟩ := H
    refine pt122 (s' := (230, [some (vr 0), some (vi x1), some (vj x2), none, none, some (vi 1), none, none, none, some (vj v3), none], [vr 0], (Wd S L F23 G h15))) (by decide) [0, 0, 0] rfl ⟨trivial, ⟨⟨g24, (by decide : R32 1)⟩, g25⟩⟩ ?_
    refine wp.cl am_m122 rfl am_m121 12 [vr 0] [] rfl (Nat.le_of_ble_eq_true rfl) ⟨(Nat.le_of_ble_eq_true rfl), (Nat.le_of_ble_eq_true rfl)⟩ rfl (Nat.le_of_ble_eq_true rfl) rfl (Nat.le_of_ble_eq_true rfl) (Nat.le_of_ble_eq_true rfl) trivial ?_
    refine wp.mono H ?_
    rintro v w1 ⟨v26, F27, rfl, rfl, H⟩
    show wp 13 122 (233, [some (vr 0), some (vi x1), some (vj x2), none, none, some (vi 1), none, none, none, some (vj v3), none], [vj v26], (Wd S L F27 G h15)) _
    obtain ⟨g28, H⟩ := H
    refine pt122 (s' := (240, [some (vr 0), some (vi x1), some (vj x2), none, none, some (vi 1), none, none, none, some (vj v3), none], [vi 5, vr 0], (Wd S L F27 G h15))) (by decide) [0, 0, 0, 0, 0] rfl ⟨⟨trivial, (Or.inr g28)⟩, ⟨y_cmp_r32, (y_cmp_eq.mpr g28)⟩⟩ ?_
    refine wp.cl am_m122 rfl am_m89 6 [vr 0, vi 5] [] rfl (Nat.le_of_ble_eq_true rfl) ⟨(Nat.le_of_ble_eq_true rfl), (Nat.le_of_ble_eq_true rfl)⟩ rfl (Nat.le_of_ble_eq_true rfl) rfl (Nat.le_of_ble_eq_true rfl) (Nat.le_of_ble_eq_true rfl) ⟨_, _, rfl, Nat.le_of_ble_eq_true rfl, rfl⟩ ?_
    refine wp.mono H ?_
    rintro v w1 ⟨v29, F30, rfl, rfl, H⟩
    show wp 13 122 (243, [some (vr 0), some (vi x1), some (vj x2), none, none, some (vi 1), none, none, none, some (vj v3), none], [vi v29], (Wd S L F30 G h15)) _
    obtain ⟨g31, H⟩ := H
    obtain ⟨g32, H⟩ := H
    obtain ⟨g33, H⟩ := H
    refine pt122 (s' := (252, [some (vr 0), some (vi x1), some (vj x2), none, none, some (vi 1), none, none, none, some (vj v3), none], [vi 1], (Wd S L F30 G h15))) (by decide) [0, 0, 0, 0] rfl ⟨trivial, ⟨⟨g31, g32⟩, g33⟩⟩ ?_
    exact wp.fin (v := some (vi 1)) (by decide) am_m122 rfl ⟨_, rfl, Or.inr ⟨rfl, Or.inr rfl⟩, rfl⟩ H
  · rw [if_neg c2] at H
    refine pt122 (s' := (154, [some (vr 0), some (vi x1), some (vj x2), none, none, some (vi 1), none, none, none, some (vi x9), none], [vr 0], (Wd S L F G h))) (by decide) [0, 0, 0, 0] rfl ⟨⟨trivial, ⟨g1, c2⟩⟩, ⟨(by decide : R32 1), (by decide : ¬ (1 : Int) = (0 : Int))⟩⟩ ?_
    refine wp.cl am_m122 rfl am_m88 8 [vr 0] [] rfl (Nat.le_of_ble_eq_true rfl) ⟨(Nat.le_of_ble_eq_true rfl), (Nat.le_of_ble_eq_true rfl)⟩ rfl (Nat.le_of_ble_eq_true rfl) rfl (Nat.le_of_ble_eq_true rfl) (Nat.le_of_ble_eq_true rfl) ⟨_, _, rfl, Nat.le_of_ble_eq_true rfl, rfl⟩ ?_
    refine wp.mono H ?_
    rintro v w1 ⟨v34, F35, rfl, rfl, H⟩
    show wp 13 122 (157, [some (vr 0), some (vi x1), some (vj x2), none, none, some (vi 1), none, none, none, some (vi x9), none], [vi v34], (Wd S L F35 G h)) _
    obtain ⟨g36, H⟩ := H
    obtain ⟨g37, H⟩ := H
    refine pt122 (s' := (143, [some (vr 0), some (vi x1), some (vj x2), none, none, some (vi 1), none, none, none, some (vi (x9 + (-1))), none], [], (Wd S L F35 G h))) (by decide) [0, 0, 0, 0, 0, 0, 0] rfl ⟨trivial, ⟨⟨g36, g1⟩, g37⟩⟩ ?_
    exact wp.weak (a := [some (vr 0), some (vi x1), some (vj x2), none, none, some (vi 1), none, none, none, some (vi (x9 + (-1))), none]) ⟨rfl, rfl, rfl, rfl, rfl, trivial⟩ H
set_option maxRecDepth 100000 in
set_option maxHeartbeats 4000000 in
theorem T123_8 {S L : Nat} {F G : Nat → Nat → Int} {h : Nat → Nat → Option Nat} (hh : RfH h)   {Q : Option V2 → W2 → Prop}
    (H : C88_0  (Wd S L F G h) (fun v w1 => ∃ (v1 : Int) (F2 : Nat → Nat → Int), v = some (vi v1) ∧ w1 = (Wd S L F2 G h) ∧
  (R32 v1 ∧
  v1 = (-4) ∧
  C91_0  (Wd S L F2 G h) (fun v w1 => ∃ (v5 : Int) (F6 : Nat → Nat → Int), v = some (vi v5) ∧ w1 = (Wd S L F6 G h) ∧
   (R32 v5 ∧
   v5 = (-4) ∧
   C84_0 0 (Wd S L F6 G h) (fun v w1 => ∃ (v9 : Int), v = some (vi v9) ∧ w1 = (Wd S L F6 G h) ∧
    (R32 v9 ∧
    v9 = (-4) ∧
    C115_0  (Wd S L F6 G h) (fun v w1 => ∃ (v12 : Int) (F13 : Nat → Nat → Int) (h14 : Nat → Nat → Option Nat), v = some (vi v12) ∧ w1 = (Wd S L F13 G h14) ∧ RfH h14 ∧
     (R32 v12 ∧
     ¬ (v12 = 0) ∧
     C117_0  (Wd S L F13 G h14) (fun v w1 => ∃ (v18 : Int) (F19 : Nat → Nat → Int), v = some (vi v18) ∧ w1 = (Wd S L F19 G h14) ∧
      (R32 v18 ∧
      ¬ (v18 = 0) ∧
      C119_0  (Wd S L F19 G h14) (fun v w1 => ∃ (v22 : Int) (F23 : Nat → Nat → Int), v = some (vi v22) ∧ w1 = (Wd S L F23 G h14) ∧
       (R32 v22 ∧
       ¬ (v22 = 0) ∧
       C112_0 20 (Wd S L F23 G h14) (fun v w1 => ∃ (v26 : Int), v = some (vi v26) ∧ w1 = (Wd S L F23 G h14) ∧
        (((0 : Int) ≤ v26 ∧ v26 ≤ 2147483647) ∧
        C71_0 (v26 % 4) (Wd S L F23 G h14) (fun v w1 => ∃ (v28 : Int) (F29 : Nat → Nat → Int) (h30 : Nat → Nat → Option Nat), v = some (vi v28) ∧ w1 = (Wd S L F29 G h30) ∧ RfH h30 ∧
         (R32 (v26 % 4) ∧
         (if (v26 % 4) = 1 then
          (R32 v28 ∧
          v28 = (-2) ∧
          C118_0 0 (Wd S L F29 G h30) (fun v w1 => ∃ (v36 : Int) (F37 : Nat → Nat → Int) (G38 : Nat → Nat → Int), v = some (vi v36) ∧ w1 = (Wd S L F37 G38 h30) ∧
           (R32 v36 ∧
           ¬ (v36 = 0) ∧
           C118_0 1 (Wd S L F37 G38 h30) (fun v w1 => ∃ (v41 : Int) (F42 : Nat → Nat → Int) (G43 : Nat → Nat → Int), v = some (vi v41) ∧ w1 = (Wd S L F42 G43 h30) ∧
            (R32 v41 ∧
            ¬ (v41 = 0) ∧
            C112_0 21 (Wd S L F42 G43 h30) (fun v w1 => ∃ (v46 : Int), v = some (vi v46) ∧ w1 = (Wd S L F42 G43 h30) ∧
             C120_0 v46 (Wd S L F42 G43 h30) (fun v w1 => ∃ (v47 : Int) (F48 : Nat → Nat → Int) (G49 : Nat → Nat → Int), v = some (vi v47) ∧ w1 = (Wd S L F48 G49 h30) ∧
              (R32 v47 ∧
              ¬ (v47 = 0) ∧
              C123_131  (Wd S L F48 G49 h30) Q))))))))
         else
          (R32 v28 ∧
          v28 = 1 ∧
          C118_0 0 (Wd S L F29 G h30) (fun v w1 => ∃ (v54 : Int) (F55 : Nat → Nat → Int) (G56 : Nat → Nat → Int), v = some (vi v54) ∧ w1 = (Wd S L F55 G56 h30) ∧
           (R32 v54 ∧
           ¬ (v54 = 0) ∧
           C118_0 1 (Wd S L F55 G56 h30) (fun v w1 => ∃ (v59 : Int) (F60 : Nat → Nat → Int) (G61 : Nat → Nat → Int), v = some (vi v59) ∧ w1 = (Wd S L F60 G61 h30) ∧
            (R32 v59 ∧
            ¬ (v59 = 0) ∧
            C112_0 21 (Wd S L F60 G61 h30) (fun v w1 => ∃ (v64 : Int), v = some (vi v64) ∧ w1 = (Wd S L F60 G61 h30) ∧
             C120_0 v64 (Wd S L F60 G61 h30) (fun v w1 => ∃ (v65 : Int) (F66 : Nat → Nat → Int) (G67 : Nat → Nat → Int), v = some (vi v65) ∧ w1 = (Wd S L F66 G67 h30) ∧
              (R32 v65 ∧
              ¬ (v65 = 0) ∧
              C123_131  (Wd S L F66 G67 h30) Q)))))))))))))))))))))))))) : C123_8  (Wd S L F G h) Q := by
  refine pt123 (s' := (9, [some (vr 9999), some (vr 0), none, none, none, none, none], [vr 0], (Wd S L F G h))) (by decide) [0] rfl trivial ?_
  refine wp.cl am_m123 rfl am_m88 8 [vr 0] [] rfl (Nat.le_of_ble_eq_true rfl) ⟨(Nat.le_of_ble_eq_true rfl), (Nat.le_of_ble_eq_true rfl)⟩ rfl (Nat.le_of_ble_eq_true rfl) rfl (Nat.le_of_ble_eq_true rfl) (Nat.le_of_ble_eq_true rfl) ⟨_, _, rfl, Nat.le_of_ble_eq_true rfl, rfl⟩ ?_
  refine wp.mono H ?_
  rintro v w1 ⟨v1, F2, rfl, rfl, H⟩
  show wp 14 123 (12, [some (vr 9999), some (vr 0), none, none, none, none, none], [vi v1], (Wd S L F2 G h)) _
  obtain ⟨g3, H⟩ := H
  obtain ⟨g4, H⟩ := H
  refine pt123 (s' := (18, [some (vr 9999), some (vr 0), none, none, none, none, none], [vr 0], (Wd S L F2 G h))) (by decide) [0, 0, 0] rfl ⟨trivial, ⟨⟨g3, (by decide : R32 (-4))⟩, g4⟩⟩ ?_
  refine wp.cl am_m123 rfl am_m91 8 [vr 0] [] rfl (Nat.le_of_ble_eq_true rfl) ⟨(Nat.le_of_ble_eq_true rfl), (Nat.le_of_ble_eq_true rfl)⟩ rfl (Nat.le_of_ble_eq_true rfl) rfl (Nat.le_of_ble_eq_true rfl) (Nat.le_of_ble_eq_true rfl) ⟨_, _, rfl, Nat.le_of_ble_eq_true rfl, rfl⟩ ?_
  refine wp.mono H ?_
  rintro v w1 ⟨v5, F6, rfl, rfl, H⟩
  show wp 14 123 (21, [some (vr 9999), some (vr 0), none, none, none, none, none], [vi v5], (Wd S L F6 G h)) _
  obtain ⟨g7, H⟩ := H
  obtain ⟨g8, H⟩ := H
  refine pt123 (s' := (28, [some (vr 9999), some (vr 0), none, none, none, none, none], [vi 0, vr 0], (Wd S L F6 G h))) (by decide) [0, 0, 0, 0] rfl ⟨trivial, ⟨⟨g7, (by decide : R32 (-4))⟩, g8⟩⟩ ?_
  refine wp.cl am_m123 rfl am_m84 10 [vr 0, vi 0] [] rfl (Nat.le_of_ble_eq_true rfl) ⟨(Nat.le_of_ble_eq_true rfl), (Nat.le_of_ble_eq_true rfl)⟩ rfl (Nat.le_of_ble_eq_true rfl) rfl (Nat.le_of_ble_eq_true rfl) (Nat.le_of_ble_eq_true rfl) ⟨_, _, rfl, Nat.le_of_ble_eq_true rfl, rfl⟩ ?_
  refine wp.mono H ?_
  rintro v w1 ⟨v9, rfl, rfl, H⟩
  show wp 14 123 (31, [some (vr 9999), some (vr 0), none, none, none, none, none], [vi v9], (Wd S L F6 G h)) _
  obtain ⟨g10, H⟩ := H
  obtain ⟨g11, H⟩ := H
  refine pt123 (s' := (38, [some (vr 9999), some (vr 0), none, none, none, none, none], [vr 9999, vr 0], (Wd S L F6 G h))) (by decide) [0, 0, 0, 0] rfl ⟨trivial, ⟨⟨g10, (by decide : R32 (-4))⟩, g11⟩⟩ ?_
  refine wp.cl am_m123 rfl am_m115 13 [vr 0, vr 9999] [] rfl (Nat.le_of_ble_eq_true rfl) ⟨(Nat.le_of_ble_eq_true rfl), (Nat.le_of_ble_eq_true rfl)⟩ rfl (Nat.le_of_ble_eq_true rfl) rfl (Nat.le_of_ble_eq_true rfl) (Nat.le_of_ble_eq_true rfl) trivial ?_
  refine wp.mono H ?_
  rintro v w1 ⟨v12, F13, h14, rfl, rfl, r15, H⟩
  show wp 14 123 (41, [some (vr 9999), some (vr 0), none, none, none, none, none], [vi v12], (Wd S L F13 G h14)) _
  obtain ⟨g16, H⟩ := H
  obtain ⟨g17, H⟩ := H
  refine pt123 (s' := (45, [some (vr 9999), some (vr 0), none, none, none, none, none], [vr 0], (Wd S L F13 G h14))) (by decide) [0, 0] rfl ⟨trivial, ⟨g16, g17⟩⟩ ?_
  refine wp.cl am_m123 rfl am_m117 12 [vr 0] [] rfl (Nat.le_of_ble_eq_true rfl) ⟨(Nat.le_of_ble_eq_true rfl), (Nat.le_of_ble_eq_true rfl)⟩ rfl (Nat.le_of_ble_eq_true rfl) rfl (Nat.le_of_ble_eq_true rfl) (Nat.le_of_ble_eq_true rfl) trivial ?_
  refine wp.mono H ?_
  rintro v w1 ⟨v18, F19, rfl, rfl, H⟩
  show wp 14 123 (48, [some (vr 9999), some (vr 0), none, none, none, none, none], [vi v18], (Wd S L F19 G h14)) _
  obtain ⟨g20, H⟩ := H
  obtain ⟨g21, H⟩ := H
  refine pt123 (s' := (52, [some (vr 9999), some (vr 0), none, none, none, none, none], [vr 0], (Wd S L F19 G h14))) (by decide) [0, 0] rfl ⟨trivial, ⟨g20, g21⟩⟩ ?_
  refine wp.cl am_m123 rfl am_m119 12 [vr 0] [] rfl (Nat.le_of_ble_eq_true rfl) ⟨(Nat.le_of_ble_eq_true rfl), (Nat.le_of_ble_eq_true rfl)⟩ rfl (Nat.le_of_ble_eq_true rfl) rfl (Nat.le_of_ble_eq_true rfl) (Nat.le_of_ble_eq_true rfl) trivial ?_
  refine wp.mono H ?_
  rintro v w1 ⟨v22, F23, rfl, rfl, H⟩
  show wp 14 123 (55, [some (vr 9999), some (vr 0), none, none, none, none, none], [vi v22], (Wd S L F23 G h14)) _
  obtain ⟨g24, H⟩ := H
  obtain ⟨g25, H⟩ := H
  refine pt123 (s' := (67, [some (vr 9999), some (vr 0), some (vi 1), none, none, none, none], [vi 20, vr 9999], (Wd S L F23 G h14))) (by decide) [0, 0, 0, 0, 0, 0] rfl ⟨trivial, ⟨g24, g25⟩⟩ ?_
  refine wp.cl am_m123 rfl am_m112 6 [vr 9999, vi 20] [] rfl (Nat.le_of_ble_eq_true rfl) ⟨(Nat.le_of_ble_eq_true rfl), (Nat.le_of_ble_eq_true rfl)⟩ rfl (Nat.le_of_ble_eq_true rfl) rfl (Nat.le_of_ble_eq_true rfl) (Nat.le_of_ble_eq_true rfl) trivial ?_
  refine wp.mono H ?_
  rintro v w1 ⟨v26, rfl, rfl, H⟩
  show wp 14 123 (70, [some (vr 9999), some (vr 0), some (vi 1), none, none, none, none], [vi v26], (Wd S L F23 G h14)) _
  obtain ⟨g27, H⟩ := H
  refine pt123 (s' := (79, [some (vr 9999), some (vr 0), some (vi 1), some (vi (v26 % 4)), none, none, none], [vi (v26 % 4), vr 0], (Wd S L F23 G h14))) (by decide) [0, 0, 0, 0, 0, 0, 0] rfl ⟨⟨trivial, ⟨g27.1, g27.2, (by decide : (0 : Int) < 4), (by decide : (4 : Int) ≤ 2147483647)⟩⟩, ⟨(by decide : R32 1), (by decide : ¬ (1 : Int) = (0 : Int))⟩⟩ ?_
  refine wp.cl am_m123 rfl am_m71 9 [vr 0, vi (v26 % 4)] [] rfl (Nat.le_of_ble_eq_true rfl) ⟨(Nat.le_of_ble_eq_true rfl), (Nat.le_of_ble_eq_true rfl)⟩ rfl (Nat.le_of_ble_eq_true rfl) rfl (Nat.le_of_ble_eq_true rfl) (Nat.le_of_ble_eq_true rfl) ⟨_, _, rfl, Nat.le_of_ble_eq_true rfl, rfl⟩ ?_
  refine wp.mono H ?_
  rintro v w1 ⟨v28, F29, h30, rfl, rfl, r31, H⟩
  show wp 14 123 (82, [some (vr 9999), some (vr 0), some (vi 1), some (vi (v26 % 4)), none, none, none], [vi v28], (Wd S L F29 G h30)) _
  obtain ⟨g32, H⟩ := H
  refine pt123 (s' := (84, [some (vr 9999), some (vr 0), some (vi 1), some (vi (v26 % 4)), none, none, none], [vi 1, vi (v26 % 4), vi v28], (Wd S L F29 G h30))) (by decide) [0, 0] rfl trivial ?_
  by_cases c33 : (v26 % 4) = 1
  · rw [if_pos c33] at H
    obtain ⟨g34, H⟩ := H
    obtain ⟨g35, H⟩ := H
    refine pt123 (s' := (98, [some (vr 9999), some (vr 0), some (vi 1), some (vi (v26 % 4)), none, none, none], [vi 0, vr 0], (Wd S L F29 G h30))) (by decide) [0, 0, 0, 0, 0, 0] rfl ⟨⟨trivial, ⟨⟨g32, (by decide : R32 1)⟩, c33⟩⟩, ⟨⟨g34, (by decide : R32 (-2))⟩, g35⟩⟩ ?_
    refine wp.cl am_m123 rfl am_m118 12 [vr 0, vi 0] [] rfl (Nat.le_of_ble_eq_true rfl) ⟨(Nat.le_of_ble_eq_true rfl), (Nat.le_of_ble_eq_true rfl)⟩ rfl (Nat.le_of_ble_eq_true rfl) rfl (Nat.le_of_ble_eq_true rfl) (Nat.le_of_ble_eq_true rfl) trivial ?_
    refine wp.mono H ?_
    rintro v w1 ⟨v36, F37, G38, rfl, rfl, H⟩
    show wp 14 123 (101, [some (vr 9999), some (vr 0), some (vi 1), some (vi (v26 % 4)), none, none, none], [vi v36], (Wd S L F37 G38 h30)) _
    obtain ⟨g39, H⟩ := H
    obtain ⟨g40, H⟩ := H
    refine pt123 (s' := (106, [some (vr 9999), some (vr 0), some (vi 1), some (vi (v26 % 4)), none, none, none], [vi 1, vr 0], (Wd S L F37 G38 h30))) (by decide) [0, 0, 0] rfl ⟨trivial, ⟨g39, g40⟩⟩ ?_
    refine wp.cl am_m123 rfl am_m118 12 [vr 0, vi 1] [] rfl (Nat.le_of_ble_eq_true rfl) ⟨(Nat.le_of_ble_eq_true rfl), (Nat.le_of_ble_eq_true rfl)⟩ rfl (Nat.le_of_ble_eq_true rfl) rfl (Nat.le_of_ble_eq_true rfl) (Nat.le_of_ble_eq_true rfl) trivial ?_
    refine wp.mono H ?_
    rintro v w1 ⟨v41, F42, G43, rfl, rfl, H⟩
    show wp 14 123 (109, [some (vr 9999), some (vr 0), some (vi 1), some (vi (v26 % 4)), none, none, none], [vi v41], (Wd S L F42 G43 h30)) _
    obtain ⟨g44, H⟩ := H
    obtain ⟨g45, H⟩ := H
    refine pt123 (s' := (116, [some (vr 9999), some (vr 0), some (vi 1), some (vi (v26 % 4)), none, none, none], [vi 21, vr 9999, vr 0], (Wd S L F42 G43 h30))) (by decide) [0, 0, 0, 0] rfl ⟨trivial, ⟨g44, g45⟩⟩ ?_
    refine wp.cl am_m123 rfl am_m112 6 [vr 9999, vi 21] [vr 0] rfl (Nat.le_of_ble_eq_true rfl) ⟨(Nat.le_of_ble_eq_true rfl), (Nat.le_of_ble_eq_true rfl)⟩ rfl (Nat.le_of_ble_eq_true rfl) rfl (Nat.le_of_ble_eq_true rfl) (Nat.le_of_ble_eq_true rfl) trivial ?_
    refine wp.mono H ?_
    rintro v w1 ⟨v46, rfl, rfl, H⟩
    show wp 14 123 (119, [some (vr 9999), some (vr 0), some (vi 1), some (vi (v26 % 4)), none, none, none], [vi v46, vr 0], (Wd S L F42 G43 h30)) _
    refine wp.cl am_m123 rfl am_m120 12 [vr 0, vi v46] [] rfl (Nat.le_of_ble_eq_true rfl) ⟨(Nat.le_of_ble_eq_true rfl), (Nat.le_of_ble_eq_true rfl)⟩ rfl (Nat.le_of_ble_eq_true rfl) rfl (Nat.le_of_ble_eq_true rfl) (Nat.le_of_ble_eq_true rfl) trivial ?_
    refine wp.mono H ?_
    rintro v w1 ⟨v47, F48, G49, rfl, rfl, H⟩
    show wp 14 123 (122, [some (vr 9999), some (vr 0), some (vi 1), some (vi (v26 % 4)), none, none, none], [vi v47], (Wd S L F48 G49 h30)) _
    obtain ⟨g50, H⟩ := H
    obtain ⟨g51, H⟩ := H
    refine pt123 (s' := (131, [some (vr 9999), some (vr 0), some (vi 1), some (vi (v26 % 4)), none, none, none], [], (Wd S L F48 G49 h30))) (by decide) [0, 0, 0, 0] rfl ⟨trivial, ⟨g50, g51⟩⟩ ?_
    exact wp.weak (a := [some (vr 9999), some (vr 0), some (vi 1), none, none, none, none]) ⟨rfl, rfl, rfl, trivial⟩ H
  · rw [if_neg c33] at H
    obtain ⟨g52, H⟩ := H
    obtain ⟨g53, H⟩ := H
    refine pt123 (s' := (98, [some (vr 9999), some (vr 0), some (vi 1), some (vi (v26 % 4)), none, none, none], [vi 0, vr 0], (Wd S L F29 G h30))) (by decide) [1, 0, 0, 0, 0] rfl ⟨⟨trivial, ⟨⟨g32, (by decide : R32 1)⟩, c33⟩⟩, ⟨⟨g52, (by decide : R32 1)⟩, g53⟩⟩ ?_
    refine wp.cl am_m123 rfl am_m118 12 [vr 0, vi 0] [] rfl (Nat.le_of_ble_eq_true rfl) ⟨(Nat.le_of_ble_eq_true rfl), (Nat.le_of_ble_eq_true rfl)⟩ rfl (Nat.le_of_ble_eq_true rfl) rfl (Nat.le_of_ble_eq_true rfl) (Nat.le_of_ble_eq_true rfl) trivial ?_
    refine wp.mono H ?_
    rintro v w1 ⟨v54, F55, G56, rfl, rfl, H⟩
    show wp 14 123 (101, [some (vr 9999), some (vr 0), some (vi 1), some (vi (v26 % 4)), none, none, none], [vi v54], (Wd S L F55 G56 h30)) _
    obtain ⟨g57, H⟩ := H
    obtain ⟨g58, H⟩ := H
    refine pt123 (s' := (106, [some (vr 9999), some (vr 0), some (vi 1), some (vi (v26 % 4)), none, none, none], [vi 1, vr 0], (Wd S L F55 G56 h30))) (by decide) [0, 0, 0] rfl ⟨trivial, ⟨g57, g58⟩⟩ ?_
    refine wp.cl am_m123 rfl am_m118 12 [vr 0, vi 1] [] rfl (Nat.le_of_ble_eq_true rfl) ⟨(Nat.le_of_ble_eq_true rfl), (Nat.le_of_ble_eq_true rfl)⟩ rfl (Nat.le_of_ble_eq_true rfl) rfl (Nat.le_of_ble_eq_true rfl) (Nat.le_of_ble_eq_true rfl) trivial ?_
    refine wp.mono H ?_
    rintro v w1 ⟨v59, F60, G61, rfl, rfl, H⟩
    show wp 14 123 (109, [some (vr 9999), some (vr 0), some (vi 1), some (vi (v26 % 4)), none, none, none], [vi v59], (Wd S L F60 G61 h30)) _
    obtain ⟨g62, H⟩ := H
    obtain ⟨g63, H⟩ := H
    refine pt123 (s' := (116, [some (vr 9999), some (vr 0), some (vi 1), some (vi (v26 % 4)), none, none, none], [vi 21, vr 9999, vr 0], (Wd S L F60 G61 h30))) (by decide) [0, 0, 0, 0] rfl ⟨trivial, ⟨g62, g63⟩⟩ ?_
    refine wp.cl am_m123 rfl am_m112 6 [vr 9999, vi 21] [vr 0] rfl (Nat.le_of_ble_eq_true rfl) ⟨(Nat.le_of_ble_eq_true rfl), (Nat.le_of_ble_eq_true rfl)⟩ rfl (Nat.le_of_ble_eq_true rfl) rfl (Nat.le_of_ble_eq_true rfl) (Nat.le_of_ble_eq_true rfl) trivial ?_
    refine wp.mono H ?_
    rintro v w1 ⟨v64, rfl, rfl, H⟩
    show wp 14 123 (119, [some (vr 9999), some (vr 0), some (vi 1), some (vi (v26 % 4)), none, none, none], [vi v64, vr 0], (Wd S L F60 G61 h30)) _
    refine wp.cl am_m123 rfl am_m120 12 [vr 0, vi v64] [] rfl (Nat.le_of_ble_eq_true rfl) ⟨(Nat.le_of_ble_eq_true rfl), (Nat.le_of_ble_eq_true rfl)⟩ rfl (Nat.le_of_ble_eq_true rfl) rfl (Nat.le_of_ble_eq_true rfl) (Nat.le_of_ble_eq_true rfl) trivial ?_
    refine wp.mono H ?_
    rintro v w1 ⟨v65, F66, G67, rfl, rfl, H⟩
    show wp 14 123 (122, [some (vr 9999), some (vr 0), some (vi 1), some (vi (v26 % 4)), none, none, none], [vi v65], (Wd S L F66 G67 h30)) _
    obtain ⟨g68, H⟩ := H
    obtain ⟨g69, H⟩ := H
    refine pt123 (s' := (131, [some (vr 9999), some (vr 0), some (vi 1), some (vi (v26 % 4)), none, none, none], [], (Wd S L F66 G67 h30))) (by decide) [0, 0, 0, 0] rfl ⟨trivial, ⟨g68, g69⟩⟩ ?_
    exact wp.weak (a := [some (vr 9999), some (vr 0), some (vi 1), none, none, none, none]) ⟨rfl, rfl, rfl, trivial⟩ H
set_option maxRecDepth 100000 in
set_option maxHeartbeats 4000000 in
theorem T123_131 {S L : Nat} {F G : Nat → Nat → Int} {h : Nat → Nat → Option Nat} (hh : RfH h)   {Q : Option V2 → W2 → Prop}
    (H : C75_0 0 (Wd S L F G h) (fun v w1 => ∃ (v1 : Int) (F2 : Nat → Nat → Int), v = some (vi v1) ∧ w1 = (Wd S L F2 G h) ∧
  (R32 v1 ∧
  (if v1 = 0 then
   C123_158 v1 0 (Wd S L F2 G h) Q
  else
   C112_0 22 (Wd S L F2 G h) (fun v w1 => ∃ (v5 : Int), v = some (vi v5) ∧ w1 = (Wd S L F2 G h) ∧
    (((0 : Int) ≤ v5 ∧ (v5 : Int) ≤ 2147483647 ∧ 0 < v1 ∧ v1 ≤ 2147483647) ∧
    C123_158 v1 (v5 % v1) (Wd S L F2 G h) Q)))))) : C123_131  (Wd S L F G h) Q := by
  refine pt123 (s' := (133, [some (vr 9999), some (vr 0), some (vi 1), none, none, none, none], [vi 0, vr 0], (Wd S L F G h))) (by decide) [0, 0] rfl trivial ?_
  refine wp.cl am_m123 rfl am_m75 11 [vr 0, vi 0] [] rfl (Nat.le_of_ble_eq_true rfl) ⟨(Nat.le_of_ble_eq_true rfl), (Nat.le_of_ble_eq_true rfl)⟩ rfl (Nat.le_of_ble_eq_true rfl) rfl (Nat.le_of_ble_eq_true rfl) (Nat.le_of_ble_eq_true rfl) ⟨_, _, rfl, Nat.le_of_ble_eq_true rfl, rfl⟩ ?_
  refine wp.mono H ?_
  rintro v w1 ⟨v1, F2, rfl, rfl, H⟩
  show wp 14 123 (136, [some (vr 9999), some (vr 0), some (vi 1), none, none, none, none], [vi v1], (Wd S L F2 G h)) _
  obtain ⟨g3, H⟩ := H
  refine pt123 (s' := (140, [some (vr 9999), some (vr 0), some (vi 1), none, some (vi v1), none, none], [vi v1], (Wd S L F2 G h))) (by decide) [0, 0] rfl trivial ?_
  by_cases c4 : v1 = 0
  · rw [if_pos c4] at H
    refine pt123 (s' := (158, [some (vr 9999), some (vr 0), some (vi 1), none, some (vi v1), some (vi 0), none], [], (Wd S L F2 G h))) (by decide) [0, 0, 0, 0] rfl ⟨trivial, ⟨g3, c4⟩⟩ ?_
    exact wp.weak (a := [some (vr 9999), some (vr 0), some (vi 1), none, some (vi v1), some (vi 0), none]) ⟨rfl, rfl, rfl, rfl, rfl, trivial⟩ H
  · rw [if_neg c4] at H
    refine pt123 (s' := (150, [some (vr 9999), some (vr 0), some (vi 1), none, some (vi v1), none, none], [vi 22, vr 9999], (Wd S L F2 G h))) (by decide) [1, 0, 0] rfl ⟨trivial, ⟨g3, c4⟩⟩ ?_
    refine wp.cl am_m123 rfl am_m112 6 [vr 9999, vi 22] [] rfl (Nat.le_of_ble_eq_true rfl) ⟨(Nat.le_of_ble_eq_true rfl), (Nat.le_of_ble_eq_true rfl)⟩ rfl (Nat.le_of_ble_eq_true rfl) rfl (Nat.le_of_ble_eq_true rfl) (Nat.le_of_ble_eq_true rfl) trivial ?_
    refine wp.mono H ?_
    rintro v w1 ⟨v5, rfl, rfl, H⟩
    show wp 14 123 (153, [some (vr 9999), some (vr 0), some (vi 1), none, some (vi v1), none, none], [vi v5], (Wd S L F2 G h)) _
    obtain ⟨g6, H⟩ := H
    refine pt123 (s' := (158, [some (vr 9999), some (vr 0), some (vi 1), none, some (vi v1), some (vi (v5 % v1)), none], [], (Wd S L F2 G h))) (by decide) [0, 0, 0] rfl ⟨trivial, g6⟩ ?_
    exact wp.weak (a := [some (vr 9999), some (vr 0), some (vi 1), none, some (vi v1), some (vi (v5 % v1)), none]) ⟨rfl, rfl, rfl, rfl, rfl, trivial⟩ H
set_option maxRecDepth 100000 in
set_option maxHeartbeats 4000000 in
theorem T123_158 {S L : Nat} {F G : Nat → Nat → Int} {h : Nat → Nat → Option Nat} (hh : RfH h) {x4 : Int} {x5 : Int}  {Q : Option V2 → W2 → Prop}
    (H : C69_0 x5 (Wd S L F G h) (fun v w1 => ∃ (v1 : Int) (F2 : Nat → Nat → Int) (h3 : Nat → Nat → Option Nat), v = some (vi v1) ∧ w1 = (Wd S L F2 G h3) ∧ RfH h3 ∧
  (R32 x4 ∧
  (if x4 = 0 then
   (R32 v1 ∧
   v1 = (-1) ∧
   C117_0  (Wd S L F2 G h3) (fun v w1 => ∃ (v9 : Int) (F10 : Nat → Nat → Int), v = some (vi v9) ∧ w1 = (Wd S L F10 G h3) ∧
    (R32 v9 ∧
    ¬ (v9 = 0) ∧
    C123_197  (Wd S L F10 G h3) Q)))
  else
   (R32 v1 ∧
   R32 (x4 - 1) ∧
   v1 = (x4 - 1) ∧
   C117_0  (Wd S L F2 G h3) (fun v w1 => ∃ (v16 : Int) (F17 : Nat → Nat → Int), v = some (vi v16) ∧ w1 = (Wd S L F17 G h3) ∧
    (R32 v16 ∧
    ¬ (v16 = 0) ∧
    C123_197  (Wd S L F17 G h3) Q))))))) : C123_158 x4 x5 (Wd S L F G h) Q := by
  refine pt123 (s' := (165, [some (vr 9999), some (vr 0), some (vi 1), none, some (vi x4), some (vi x5), none], [vi x5, vr 0], (Wd S L F G h))) (by decide) [0, 0, 0, 0] rfl ⟨trivial, ⟨(by decide : R32 1), (by decide : ¬ (1 : Int) = (0 : Int))⟩⟩ ?_
  refine wp.cl am_m123 rfl am_m69 9 [vr 0, vi x5] [] rfl (Nat.le_of_ble_eq_true rfl) ⟨(Nat.le_of_ble_eq_true rfl), (Nat.le_of_ble_eq_true rfl)⟩ rfl (Nat.le_of_ble_eq_true rfl) rfl (Nat.le_of_ble_eq_true rfl) (Nat.le_of_ble_eq_true rfl) ⟨_, _, rfl, Nat.le_of_ble_eq_true rfl, rfl⟩ ?_
  refine wp.mono H ?_
  rintro v w1 ⟨v1, F2, h3, rfl, rfl, r4, H⟩
  show wp 14 123 (168, [some (vr 9999), some (vr 0), some (vi 1), none, some (vi x4), some (vi x5), none], [vi v1], (Wd S L F2 G h3)) _
  obtain ⟨g5, H⟩ := H
  refine pt123 (s' := (170, [some (vr 9999), some (vr 0), some (vi 1), none, some (vi x4), some (vi x5), none], [vi x4, vi v1], (Wd S L F2 G h3))) (by decide) [0] rfl trivial ?_
  by_cases c6 : x4 = 0
  · rw [if_pos c6] at H
    obtain ⟨g7, H⟩ := H
    obtain ⟨g8, H⟩ := H
    refine pt123 (s' := (185, [some (vr 9999), some (vr 0), some (vi 1), none, some (vi x4), some (vi x5), none], [vr 0], (Wd S L F2 G h3))) (by decide) [0, 0, 0, 0, 0] rfl ⟨⟨trivial, ⟨g5, c6⟩⟩, ⟨⟨g7, (by decide : R32 (-1))⟩, g8⟩⟩ ?_
    refine wp.cl am_m123 rfl am_m117 12 [vr 0] [] rfl (Nat.le_of_ble_eq_true rfl) ⟨(Nat.le_of_ble_eq_true rfl), (Nat.le_of_ble_eq_true rfl)⟩ rfl (Nat.le_of_ble_eq_true rfl) rfl (Nat.le_of_ble_eq_true rfl) (Nat.le_of_ble_eq_true rfl) trivial ?_
    refine wp.mono H ?_
    rintro v w1 ⟨v9, F10, rfl, rfl, H⟩
    show wp 14 123 (188, [some (vr 9999), some (vr 0), some (vi 1), none, some (vi x4), some (vi x5), none], [vi v9], (Wd S L F10 G h3)) _
    obtain ⟨g11, H⟩ := H
    obtain ⟨g12, H⟩ := H
    refine pt123 (s' := (197, [some (vr 9999), some (vr 0), some (vi 1), none, some (vi x4), some (vi x5), none], [], (Wd S L F10 G h3))) (by decide) [0, 0, 0, 0] rfl ⟨trivial, ⟨g11, g12⟩⟩ ?_
    exact wp.weak (a := [some (vr 9999), some (vr 0), some (vi 1), none, none, none, none]) ⟨rfl, rfl, rfl, trivial⟩ H
  · rw [if_neg c6] at H
    obtain ⟨g13, H⟩ := H
    obtain ⟨g14, H⟩ := H
    obtain ⟨g15, H⟩ := H
    refine pt123 (s' := (185, [some (vr 9999), some (vr 0), some (vi 1), none, some (vi x4), some (vi x5), none], [vr 0], (Wd S L F2 G h3))) (by decide) [1, 0, 0, 0, 0, 0] rfl ⟨⟨trivial, ⟨g5, c6⟩⟩, ⟨⟨g13, g14⟩, g15⟩⟩ ?_
    refine wp.cl am_m123 rfl am_m117 12 [vr 0] [] rfl (Nat.le_of_ble_eq_true rfl) ⟨(Nat.le_of_ble_eq_true rfl), (Nat.le_of_ble_eq_true rfl)⟩ rfl (Nat.le_of_ble_eq_true rfl) rfl (Nat.le_of_ble_eq_true rfl) (Nat.le_of_ble_eq_true rfl) trivial ?_
    refine wp.mono H ?_
    rintro v w1 ⟨v16, F17, rfl, rfl, H⟩
    show wp 14 123 (188, [some (vr 9999), some (vr 0), some (vi 1), none, some (vi x4), some (vi x5), none], [vi v16], (Wd S L F17 G h3)) _
    obtain ⟨g18, H⟩ := H
    obtain ⟨g19, H⟩ := H
    refine pt123 (s' := (197, [some (vr 9999), some (vr 0), some (vi 1), none, some (vi x4), some (vi x5), none], [], (Wd S L F17 G h3))) (by decide) [0, 0, 0, 0] rfl ⟨trivial, ⟨g18, g19⟩⟩ ?_
    exact wp.weak (a := [some (vr 9999), some (vr 0), some (vi 1), none, none, none, none]) ⟨rfl, rfl, rfl, trivial⟩ H
set_option maxRecDepth 100000 in
set_option maxHeartbeats 4000000 in
theorem T123_197 {S L : Nat} {F G : Nat → Nat → Int} {h : Nat → Nat → Option Nat} (hh : RfH h)   {Q : Option V2 → W2 → Prop}
    (H : C75_0 9 (Wd S L F G h) (fun v w1 => ∃ (v1 : Int) (F2 : Nat → Nat → Int), v = some (vi v1) ∧ w1 = (Wd S L F2 G h) ∧
  C81_0 v1 (Wd S L F2 G h) (fun v w1 => ∃ (v3 : Int) (F4 : Nat → Nat → Int) (h5 : Nat → Nat → Option Nat), v = some (vi v3) ∧ w1 = (Wd S L F4 G h5) ∧ RfH h5 ∧
   (R32 v3 ∧
   v3 = (-1) ∧
   C81_0 0 (Wd S L F4 G h5) (fun v w1 => ∃ (v9 : Int) (F10 : Nat → Nat → Int) (h11 : Nat → Nat → Option Nat), v = some (vi v9) ∧ w1 = (Wd S L F10 G h11) ∧ RfH h11 ∧
    (R32 v1 ∧
    (if v1 = 0 then
     (R32 v9 ∧
     v9 = (-1) ∧
     C119_0  (Wd S L F10 G h11) (fun v w1 => ∃ (v17 : Int) (F18 : Nat → Nat → Int), v = some (vi v17) ∧ w1 = (Wd S L F18 G h11) ∧
      (R32 v17 ∧
      ¬ (v17 = 0) ∧
      C123_253  (Wd S L F18 G h11) Q)))
    else
     (R32 v9 ∧
     R32 (v1 - 1) ∧
     v9 = (v1 - 1) ∧
     C119_0  (Wd S L F10 G h11) (fun v w1 => ∃ (v24 : Int) (F25 : Nat → Nat → Int), v = some (vi v24) ∧ w1 = (Wd S L F25 G h11) ∧
      (R32 v24 ∧
      ¬ (v24 = 0) ∧
      C123_253  (Wd S L F25 G h11) Q)))))))))) : C123_197  (Wd S L F G h) Q := by
  refine pt123 (s' := (200, [some (vr 9999), some (vr 0), some (vi 1), none, none, none, none], [vi 9, vr 0], (Wd S L F G h))) (by decide) [0, 0] rfl trivial ?_
  refine wp.cl am_m123 rfl am_m75 11 [vr 0, vi 9] [] rfl (Nat.le_of_ble_eq_true rfl) ⟨(Nat.le_of_ble_eq_true rfl), (Nat.le_of_ble_eq_true rfl)⟩ rfl (Nat.le_of_ble_eq_true rfl) rfl (Nat.le_of_ble_eq_true rfl) (Nat.le_of_ble_eq_true rfl) ⟨_, _, rfl, Nat.le_of_ble_eq_true rfl, rfl⟩ ?_
  refine wp.mono H ?_
  rintro v w1 ⟨v1, F2, rfl, rfl, H⟩
  show wp 14 123 (203, [some (vr 9999), some (vr 0), some (vi 1), none, none, none, none], [vi v1], (Wd S L F2 G h)) _
  refine pt123 (s' := (212, [some (vr 9999), some (vr 0), some (vi 1), none, none, none, some (vi v1)], [vi v1, vr 0], (Wd S L F2 G h))) (by decide) [0, 0, 0, 0, 0] rfl ⟨trivial, ⟨(by decide : R32 1), (by decide : ¬ (1 : Int) = (0 : Int))⟩⟩ ?_
  refine wp.cl am_m123 rfl am_m81 9 [vr 0, vi v1] [] rfl (Nat.le_of_ble_eq_true rfl) ⟨(Nat.le_of_ble_eq_true rfl), (Nat.le_of_ble_eq_true rfl)⟩ rfl (Nat.le_of_ble_eq_true rfl) rfl (Nat.le_of_ble_eq_true rfl) (Nat.le_of_ble_eq_true rfl) ⟨_, _, rfl, Nat.le_of_ble_eq_true rfl, rfl⟩ ?_
  refine wp.mono H ?_
  rintro v w1 ⟨v3, F4, h5, rfl, rfl, r6, H⟩
  show wp 14 123 (215, [some (vr 9999), some (vr 0), some (vi 1), none, none, none, some (vi v1)], [vi v3], (Wd S L F4 G h5)) _
  obtain ⟨g7, H⟩ := H
  obtain ⟨g8, H⟩ := H
  refine pt123 (s' := (221, [some (vr 9999), some (vr 0), some (vi 1), none, none, none, some (vi v1)], [vi 0, vr 0], (Wd S L F4 G h5))) (by decide) [0, 0, 0, 0] rfl ⟨trivial, ⟨⟨g7, (by decide : R32 (-1))⟩, g8⟩⟩ ?_
  refine wp.cl am_m123 rfl am_m81 9 [vr 0, vi 0] [] rfl (Nat.le_of_ble_eq_true rfl) ⟨(Nat.le_of_ble_eq_true rfl), (Nat.le_of_ble_eq_true rfl)⟩ rfl (Nat.le_of_ble_eq_true rfl) rfl (Nat.le_of_ble_eq_true rfl) (Nat.le_of_ble_eq_true rfl) ⟨_, _, rfl, Nat.le_of_ble_eq_true rfl, rfl⟩ ?_
  refine wp.mono H ?_
  rintro v w1 ⟨v9, F10, h11, rfl, rfl, r12, H⟩
  show wp 14 123 (224, [some (vr 9999), some (vr 0), some (vi 1), none, none, none, some (vi v1)], [vi v9], (Wd S L F10 G h11)) _
  obtain ⟨g13, H⟩ := H
  refine pt123 (s' := (226, [some (vr 9999), some (vr 0), some (vi 1), none, none, none, some (vi v1)], [vi v1, vi v9], (Wd S L F10 G h11))) (by decide) [0] rfl trivial ?_
  by_cases c14 : v1 = 0
  · rw [if_pos c14] at H
    obtain ⟨g15, H⟩ := H
    obtain ⟨g16, H⟩ := H
    refine pt123 (s' := (241, [some (vr 9999), some (vr 0), some (vi 1), none, none, none, some (vi v1)], [vr 0], (Wd S L F10 G h11))) (by decide) [0, 0, 0, 0, 0] rfl ⟨⟨trivial, ⟨g13, c14⟩⟩, ⟨⟨g15, (by decide : R32 (-1))⟩, g16⟩⟩ ?_
    refine wp.cl am_m123 rfl am_m119 12 [vr 0] [] rfl (Nat.le_of_ble_eq_true rfl) ⟨(Nat.le_of_ble_eq_true rfl), (Nat.le_of_ble_eq_true rfl)⟩ rfl (Nat.le_of_ble_eq_true rfl) rfl (Nat.le_of_ble_eq_true rfl) (Nat.le_of_ble_eq_true rfl) trivial ?_
    refine wp.mono H ?_
    rintro v w1 ⟨v17, F18, rfl, rfl, H⟩
    show wp 14 123 (244, [some (vr 9999), some (vr 0), some (vi 1), none, none, none, some (vi v1)], [vi v17], (Wd S L F18 G h11)) _
    obtain ⟨g19, H⟩ := H
    obtain ⟨g20, H⟩ := H
    refine pt123 (s' := (253, [some (vr 9999), some (vr 0), some (vi 1), none, none, none, some (vi v1)], [], (Wd S L F18 G h11))) (by decide) [0, 0, 0, 0] rfl ⟨trivial, ⟨g19, g20⟩⟩ ?_
    exact wp.weak (a := [some (vr 9999), some (vr 0), some (vi 1), none, none, none, none]) ⟨rfl, rfl, rfl, trivial⟩ H
  · rw [if_neg c14] at H
    obtain ⟨g21, H⟩ := H
    obtain ⟨g22, H⟩ := H
    obtain ⟨g23, H⟩ := H
    refine pt123 (s' := (241, [some (vr 9999), some (vr 0), some (vi 1), none, none, none, some (vi v1)], [vr 0], (Wd S L F10 G h11))) (by decide) [1, 0, 0, 0, 0, 0] rfl ⟨⟨trivial, ⟨g13, c14⟩⟩, ⟨⟨g21, g22⟩, g23⟩⟩ ?_
    refine wp.cl am_m123 rfl am_m119 12 [vr 0] [] rfl (Nat.le_of_ble_eq_true rfl) ⟨(Nat.le_of_ble_eq_true rfl), (Nat.le_of_ble_eq_true rfl)⟩ rfl (Nat.le_of_ble_eq_true rfl) rfl (Nat.le_of_ble_eq_true rfl) (Nat.le_of_ble_eq_true rfl) trivial ?_
    refine wp.mono H ?_
    rintro v w1 ⟨v24, F25, rfl, rfl, H⟩
    show wp 14 123 (244, [some (vr 9999), some (vr 0), some (vi 1), none, none, none, some (vi v1)], [vi v24], (Wd S L F25 G h11)) _
    obtain ⟨g26, H⟩ := H
    obtain ⟨g27, H⟩ := H
    refine pt123 (s' := (253, [some (vr 9999), some (vr 0), some (vi 1), none, none, none, some (vi v1)], [], (Wd S L F25 G h11))) (by decide) [0, 0, 0, 0] rfl ⟨trivial, ⟨g26, g27⟩⟩ ?_
    exact wp.weak (a := [some (vr 9999), some (vr 0), some (vi 1), none, none, none, none]) ⟨rfl, rfl, rfl, trivial⟩ H
set_option maxRecDepth 100000 in
set_option maxHeartbeats 4000000 in
theorem T123_253 {S L : Nat} {F G : Nat → Nat → Int} {h : Nat → Nat → Option Nat} (hh : RfH h)   {Q : Option V2 → W2 → Prop}
    (H : C112_0 23 (Wd S L F G h) (fun v w1 => ∃ (v1 : Int), v = some (vi v1) ∧ w1 = (Wd S L F G h) ∧
  C122_0 v1 (Wd S L F G h) (fun v w1 => ∃ (v2 : Int) (F3 : Nat → Nat → Int) (h4 : Nat → Nat → Option Nat), v = some (vi v2) ∧ w1 = (Wd S L F3 G h4) ∧ RfH h4 ∧
   (R32 v2 ∧
   ¬ (v2 = 0) ∧
   Q (some (vi 1)) (Wd S L F3 G h4))))) : C123_253  (Wd S L F G h) Q := by
  refine pt123 (s' := (261, [some (vr 9999), some (vr 0), some (vi 1), none, none, none, none], [vi 23, vr 9999, vr 0], (Wd S L F G h))) (by decide) [0, 0, 0, 0, 0] rfl ⟨trivial, ⟨(by decide : R32 1), (by decide : ¬ (1 : Int) = (0 : Int))⟩⟩ ?_
  refine wp.cl am_m123 rfl am_m112 6 [vr 9999, vi 23] [vr 0] rfl (Nat.le_of_ble_eq_true rfl) ⟨(Nat.le_of_ble_eq_true rfl), (Nat.le_of_ble_eq_true rfl)⟩ rfl (Nat.le_of_ble_eq_true rfl) rfl (Nat.le_of_ble_eq_true rfl) (Nat.le_of_ble_eq_true rfl) trivial ?_
  refine wp.mono H ?_
  rintro v w1 ⟨v1, rfl, rfl, H⟩
  show wp 14 123 (264, [some (vr 9999), some (vr 0), some (vi 1), none, none, none, none], [vi v1, vr 0], (Wd S L F G h)) _
  refine wp.cl am_m123 rfl am_m122 13 [vr 0, vi v1] [] rfl (Nat.le_of_ble_eq_true rfl) ⟨(Nat.le_of_ble_eq_true rfl), (Nat.le_of_ble_eq_true rfl)⟩ rfl (Nat.le_of_ble_eq_true rfl) rfl (Nat.le_of_ble_eq_true rfl) (Nat.le_of_ble_eq_true rfl) trivial ?_
  refine wp.mono H ?_
  rintro v w1 ⟨v2, F3, h4, rfl, rfl, r5, H⟩
  show wp 14 123 (267, [some (vr 9999), some (vr 0), some (vi 1), none, none, none, none], [vi v2], (Wd S L F3 G h4)) _
  obtain ⟨g6, H⟩ := H
  obtain ⟨g7, H⟩ := H
  refine pt123 (s' := (275, [some (vr 9999), some (vr 0), some (vi 1), none, none, none, none], [vi 1], (Wd S L F3 G h4))) (by decide) [0, 0, 0] rfl ⟨trivial, ⟨g6, g7⟩⟩ ?_
  exact wp.fin (v := some (vi 1)) (by decide) am_m123 rfl ⟨_, rfl, Or.inr ⟨rfl, Or.inr rfl⟩, rfl⟩ H
