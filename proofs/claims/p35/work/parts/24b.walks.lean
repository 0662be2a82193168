/-! the methods walked, by program (wip/p35/sym.py) -/
set_option maxRecDepth 100000 in
set_option maxHeartbeats 4000000 in
theorem T118_26 {S L : Nat} {F G : Nat → Nat → Int} {h : Nat → Nat → Option Nat} (hh : RfH h) {x1 : Int} {x2 : Int} {x3 : Int} {x4 : Int} {x6 : Int}  {Q : Option V2 → W2 → Prop}
    (H : (R32 x6 ∧
 R32 x2 ∧
 (if x2 ≤ x6 then
  C78_0 x1 0 (Wd S L F G h) (fun v w1 => ∃ (v4 : Int) (F5 : Nat → Nat → Int) (G6 : Nat → Nat → Int), v = some (vj v4) ∧ w1 = (Wd S L F5 G6 h) ∧
   C78_0 x1 1 (Wd S L F5 G6 h) (fun v w1 => ∃ (v7 : Int) (F8 : Nat → Nat → Int) (G9 : Nat → Nat → Int), v = some (vj v7) ∧ w1 = (Wd S L F8 G9 h) ∧
    (R32 x3 ∧
    (if 2 ≤ x3 then
     C118_219 x1 x2 x3 x4 v4 v7 0 0 (Wd S L F8 G9 h) Q
    else
     C118_219 x1 x2 x3 x4 v4 v7 1 0 (Wd S L F8 G9 h) Q))))
 else
  C76_0 x6 x1 0 (Wd S L F G h) (fun v w1 => ∃ (v12 : Int), v = some (vi v12) ∧ w1 = (Wd S L F G h) ∧
   C76_0 x6 x1 1 (Wd S L F G h) (fun v w1 => ∃ (v13 : Int), v = some (vi v13) ∧ w1 = (Wd S L F G h) ∧
    (R32 v12 ∧
    ¬ (v12 < 0) ∧
    R32 v13 ∧
    ¬ (v13 < 1) ∧
    ¬ (13 < v13) ∧
    R32 (12 * v13) ∧
    ¬ ((12 * v13) < v12) ∧
    C114_0 v12 v13 (Wd S L F G h) (fun v w1 => ∃ (v21 : Int), v = some (vj v21) ∧ w1 = (Wd S L F G h) ∧
     (R64 v21 ∧
     v21 = 1 ∧
     R32 x1 ∧
     (if x1 = 1 then
      C118_131 x1 x2 x3 x4 x6 (Wd S L F G h) Q
     else
      C73_0 x6 0 (Wd S L F G h) (fun v w1 => ∃ (v26 : Int) (F27 : Nat → Nat → Int), v = some (vi v26) ∧ w1 = (Wd S L F27 G h) ∧
       C72_0 v26 4 (Wd S L F27 G h) (fun v w1 => ∃ (v28 : Int), v = some (vi v28) ∧ w1 = (Wd S L F27 G h) ∧
        (R32 v28 ∧
        (if v28 = 0 then
         C118_131 x1 x2 x3 x4 x6 (Wd S L F27 G h) Q
        else
         (v12 = 0 ∧
         C118_131 x1 x2 x3 x4 x6 (Wd S L F27 G h) Q)))))))))))))) : C118_26 x1 x2 x3 x4 x6 (Wd S L F G h) Q := by
  obtain ⟨g1, H⟩ := H
  obtain ⟨g2, H⟩ := H
  refine pt118 (s' := (29, [some (vr 0), some (vi x1), some (vi x2), some (vi x3), some (vi x4), some (vi 1), some (vi x6), none, none, none, none, none, none, none, none, none, none, none, none, none, none, none, none, none, none, none, none, none, none, none], [vi x2, vi x6], (Wd S L F G h))) (by decide) [0, 0] rfl trivial ?_
  by_cases c3 : x2 ≤ x6
  · rw [if_pos c3] at H
    refine pt118 (s' := (191, [some (vr 0), some (vi x1), some (vi x2), some (vi x3), some (vi x4), some (vi 1), some (vi x6), none, none, none, none, none, none, none, none, none, none, none, none, none, none, none, none, none, none, none, none, none, none, none], [vi 0, vi x1, vr 0], (Wd S L F G h))) (by decide) [1, 0, 0, 0] rfl ⟨trivial, ⟨⟨g1, g2⟩, c3⟩⟩ ?_
    refine wp.cl am_m118 rfl am_m78 11 [vr 0, vi x1, vi 0] [] rfl (Nat.le_of_ble_eq_true rfl) ⟨(Nat.le_of_ble_eq_true rfl), (Nat.le_of_ble_eq_true rfl)⟩ rfl (Nat.le_of_ble_eq_true rfl) rfl (Nat.le_of_ble_eq_true rfl) (Nat.le_of_ble_eq_true rfl) ⟨_, _, rfl, Nat.le_of_ble_eq_true rfl, rfl⟩ ?_
    refine wp.mono H ?_
    rintro v w1 ⟨v4, F5, G6, rfl, rfl, H⟩
    show wp 12 118 (194, [some (vr 0), some (vi x1), some (vi x2), some (vi x3), some (vi x4), some (vi 1), some (vi x6), none, none, none, none, none, none, none, none, none, none, none, none, none, none, none, none, none, none, none, none, none, none, none], [vj v4], (Wd S L F5 G6 h)) _
    refine pt118 (s' := (199, [some (vr 0), some (vi x1), some (vi x2), some (vi x3), some (vi x4), some (vi 1), some (vj v4), none, none, none, none, none, none, none, none, none, none, none, none, none, none, none, none, none, none, none, none, none, none, none], [vi 1, vi x1, vr 0], (Wd S L F5 G6 h))) (by decide) [0, 0, 0, 0] rfl trivial ?_
    refine wp.cl am_m118 rfl am_m78 11 [vr 0, vi x1, vi 1] [] rfl (Nat.le_of_ble_eq_true rfl) ⟨(Nat.le_of_ble_eq_true rfl), (Nat.le_of_ble_eq_true rfl)⟩ rfl (Nat.le_of_ble_eq_true rfl) rfl (Nat.le_of_ble_eq_true rfl) (Nat.le_of_ble_eq_true rfl) ⟨_, _, rfl, Nat.le_of_ble_eq_true rfl, rfl⟩ ?_
    refine wp.mono H ?_
    rintro v w1 ⟨v7, F8, G9, rfl, rfl, H⟩
    show wp 12 118 (202, [some (vr 0), some (vi x1), some (vi x2), some (vi x3), some (vi x4), some (vi 1), some (vj v4), none, none, none, none, none, none, none, none, none, none, none, none, none, none, none, none, none, none, none, none, none, none, none], [vj v7], (Wd S L F8 G9 h)) _
    obtain ⟨g10, H⟩ := H
    refine pt118 (s' := (206, [some (vr 0), some (vi x1), some (vi x2), some (vi x3), some (vi x4), some (vi 1), some (vj v4), none, some (vj v7), none, none, none, none, none, none, none, none, none, none, none, none, none, none, none, none, none, none, none, none, none], [vi 2, vi x3], (Wd S L F8 G9 h))) (by decide) [0, 0, 0] rfl trivial ?_
    by_cases c11 : 2 ≤ x3
    · rw [if_pos c11] at H
      refine pt118 (s' := (219, [some (vr 0), some (vi x1), some (vi x2), some (vi x3), some (vi x4), some (vi 1), some (vj v4), none, some (vj v7), none, some (vi 0), some (vi 0), none, none, none, none, none, none, none, none, none, none, none, none, none, none, none, none, none, none], [], (Wd S L F8 G9 h))) (by decide) [1, 0, 0, 0, 0] rfl ⟨trivial, ⟨⟨g10, (by decide : R32 2)⟩, c11⟩⟩ ?_
      exact wp.weak (a := [some (vr 0), some (vi x1), some (vi x2), some (vi x3), some (vi x4), some (vi 1), some (vj v4), none, some (vj v7), none, some (vi 0), some (vi 0), none, none, none, none, none, none, none, none, none, none, none, none, none, none, none, none, none, none]) ⟨rfl, rfl, rfl, rfl, rfl, rfl, rfl, rfl, rfl, rfl, trivial⟩ H
    · rw [if_neg c11] at H
      refine pt118 (s' := (219, [some (vr 0), some (vi x1), some (vi x2), some (vi x3), some (vi x4), some (vi 1), some (vj v4), none, some (vj v7), none, some (vi 1), some (vi 0), none, none, none, none, none, none, none, none, none, none, none, none, none, none, none, none, none, none], [], (Wd S L F8 G9 h))) (by decide) [0, 0, 0, 0, 0, 0] rfl ⟨trivial, ⟨⟨g10, (by decide : R32 2)⟩, c11⟩⟩ ?_
      exact wp.weak (a := [some (vr 0), some (vi x1), some (vi x2), some (vi x3), some (vi x4), some (vi 1), some (vj v4), none, some (vj v7), none, some (vi 1), some (vi 0), none, none, none, none, none, none, none, none, none, none, none, none, none, none, none, none, none, none]) ⟨rfl, rfl, rfl, rfl, rfl, rfl, rfl, rfl, rfl, rfl, trivial⟩ H
  · rw [if_neg c3] at H
    refine pt118 (s' := (42, [some (vr 0), some (vi x1), some (vi x2), some (vi x3), some (vi x4), some (vi 1), some (vi x6), none, none, none, none, none, none, none, none, none, none, none, none, none, none, none, none, none, none, none, none, none, none, none], [vi 0, vi x1, vi x6, vr 0], (Wd S L F G h))) (by decide) [0, 0, 0, 0, 0, 0, 0] rfl ⟨⟨trivial, ⟨⟨g1, g2⟩, c3⟩⟩, ⟨(by decide : R32 1), (by decide : ¬ (1 : Int) = (0 : Int))⟩⟩ ?_
    refine wp.cl am_m118 rfl am_m76 8 [vr 0, vi x6, vi x1, vi 0] [] rfl (Nat.le_of_ble_eq_true rfl) ⟨(Nat.le_of_ble_eq_true rfl), (Nat.le_of_ble_eq_true rfl)⟩ rfl (Nat.le_of_ble_eq_true rfl) rfl (Nat.le_of_ble_eq_true rfl) (Nat.le_of_ble_eq_true rfl) ⟨_, _, rfl, Nat.le_of_ble_eq_true rfl, rfl⟩ ?_
    refine wp.mono H ?_
    rintro v w1 ⟨v12, rfl, rfl, H⟩
    show wp 12 118 (45, [some (vr 0), some (vi x1), some (vi x2), some (vi x3), some (vi x4), some (vi 1), some (vi x6), none, none, none, none, none, none, none, none, none, none, none, none, none, none, none, none, none, none, none, none, none, none, none], [vi v12], (Wd S L F G h)) _
    refine pt118 (s' := (52, [some (vr 0), some (vi x1), some (vi x2), some (vi x3), some (vi x4), some (vi 1), some (vi x6), some (vi v12), none, none, none, none, none, none, none, none, none, none, none, none, none, none, none, none, none, none, none, none, none, none], [vi 1, vi x1, vi x6, vr 0], (Wd S L F G h))) (by decide) [0, 0, 0, 0, 0] rfl trivial ?_
    refine wp.cl am_m118 rfl am_m76 8 [vr 0, vi x6, vi x1, vi 1] [] rfl (Nat.le_of_ble_eq_true rfl) ⟨(Nat.le_of_ble_eq_true rfl), (Nat.le_of_ble_eq_true rfl)⟩ rfl (Nat.le_of_ble_eq_true rfl) rfl (Nat.le_of_ble_eq_true rfl) (Nat.le_of_ble_eq_true rfl) ⟨_, _, rfl, Nat.le_of_ble_eq_true rfl, rfl⟩ ?_
    refine wp.mono H ?_
    rintro v w1 ⟨v13, rfl, rfl, H⟩
    show wp 12 118 (55, [some (vr 0), some (vi x1), some (vi x2), some (vi x3), some (vi x4), some (vi 1), some (vi x6), some (vi v12), none, none, none, none, none, none, none, none, none, none, none, none, none, none, none, none, none, none, none, none, none, none], [vi v13], (Wd S L F G h)) _
    obtain ⟨g14, H⟩ := H
    obtain ⟨g15, H⟩ := H
    obtain ⟨g16, H⟩ := H
    obtain ⟨g17, H⟩ := H
    obtain ⟨g18, H⟩ := H
    obtain ⟨g19, H⟩ := H
    obtain ⟨g20, H⟩ := H
    refine pt118 (s' := (91, [some (vr 0), some (vi x1), some (vi x2), some (vi x3), some (vi x4), some (vi 1), some (vi x6), some (vi v12), some (vi v13), none, none, none, none, none, none, none, none, none, none, none, none, none, none, none, none, none, none, none, none, none], [vj v13, vj v12], (Wd S L F G h))) (by decide) [0, 0, 0, 0, 0, 0, 0, 0, 0, 0, 0, 0, 0, 0, 0, 0, 0, 0] rfl ⟨⟨⟨⟨⟨⟨trivial, ⟨g14, g15⟩⟩, ⟨⟨g16, (by decide : R32 1)⟩, g17⟩⟩, ⟨⟨g16, (by decide : R32 13)⟩, g18⟩⟩, ⟨⟨g14, g19⟩, g20⟩⟩, g14⟩, g16⟩ ?_
    refine wp.cl am_m118 rfl am_m114 6 [vj v12, vj v13] [] rfl (Nat.le_of_ble_eq_true rfl) ⟨(Nat.le_of_ble_eq_true rfl), (Nat.le_of_ble_eq_true rfl)⟩ rfl (Nat.le_of_ble_eq_true rfl) rfl (Nat.le_of_ble_eq_true rfl) (Nat.le_of_ble_eq_true rfl) trivial ?_
    refine wp.mono H ?_
    rintro v w1 ⟨v21, rfl, rfl, H⟩
    show wp 12 118 (94, [some (vr 0), some (vi x1), some (vi x2), some (vi x3), some (vi x4), some (vi 1), some (vi x6), some (vi v12), some (vi v13), none, none, none, none, none, none, none, none, none, none, none, none, none, none, none, none, none, none, none, none, none], [vj v21], (Wd S L F G h)) _
    obtain ⟨g22, H⟩ := H
    obtain ⟨g23, H⟩ := H
    obtain ⟨g24, H⟩ := H
    refine pt118 (s' := (101, [some (vr 0), some (vi x1), some (vi x2), some (vi x3), some (vi x4), some (vi 1), some (vi x6), some (vi v12), some (vi v13), none, none, none, none, none, none, none, none, none, none, none, none, none, none, none, none, none, none, none, none, none], [vi 1, vi x1], (Wd S L F G h))) (by decide) [0, 0, 0, 0, 0] rfl ⟨⟨trivial, (Or.inl ⟨g22, (by decide : R64 1)⟩)⟩, ⟨y_cmp_r32, (y_cmp_eq.mpr g23)⟩⟩ ?_
    by_cases c25 : x1 = 1
    · rw [if_pos c25] at H
      refine pt118 (s' := (131, [some (vr 0), some (vi x1), some (vi x2), some (vi x3), some (vi x4), some (vi 1), some (vi x6), some (vi v12), some (vi v13), none, none, none, none, none, none, none, none, none, none, none, none, none, none, none, none, none, none, none, none, none], [], (Wd S L F G h))) (by decide) [1, 0, 0, 0] rfl ⟨trivial, ⟨⟨g24, (by decide : R32 1)⟩, c25⟩⟩ ?_
      exact wp.weak (a := [some (vr 0), some (vi x1), some (vi x2), some (vi x3), some (vi x4), some (vi 1), some (vi x6), none, none, none, none, none, none, none, none, none, none, none, none, none, none, none, none, none, none, none, none, none, none, none]) ⟨rfl, rfl, rfl, rfl, rfl, rfl, rfl, trivial⟩ H
    · rw [if_neg c25] at H
      refine pt118 (s' := (109, [some (vr 0), some (vi x1), some (vi x2), some (vi x3), some (vi x4), some (vi 1), some (vi x6), some (vi v12), some (vi v13), none, none, none, none, none, none, none, none, none, none, none, none, none, none, none, none, none, none, none, none, none], [vi 0, vi x6, vr 0, vr 0], (Wd S L F G h))) (by decide) [0, 0, 0, 0, 0] rfl ⟨trivial, ⟨⟨g24, (by decide : R32 1)⟩, c25⟩⟩ ?_
      refine wp.cl am_m118 rfl am_m73 11 [vr 0, vi x6, vi 0] [vr 0] rfl (Nat.le_of_ble_eq_true rfl) ⟨(Nat.le_of_ble_eq_true rfl), (Nat.le_of_ble_eq_true rfl)⟩ rfl (Nat.le_of_ble_eq_true rfl) rfl (Nat.le_of_ble_eq_true rfl) (Nat.le_of_ble_eq_true rfl) ⟨_, _, rfl, Nat.le_of_ble_eq_true rfl, rfl⟩ ?_
      refine wp.mono H ?_
      rintro v w1 ⟨v26, F27, rfl, rfl, H⟩
      show wp 12 118 (112, [some (vr 0), some (vi x1), some (vi x2), some (vi x3), some (vi x4), some (vi 1), some (vi x6), some (vi v12), some (vi v13), none, none, none, none, none, none, none, none, none, none, none, none, none, none, none, none, none, none, none, none, none], [vi v26, vr 0], (Wd S L F27 G h)) _
      refine pt118 (s' := (113, [some (vr 0), some (vi x1), some (vi x2), some (vi x3), some (vi x4), some (vi 1), some (vi x6), some (vi v12), some (vi v13), none, none, none, none, none, none, none, none, none, none, none, none, none, none, none, none, none, none, none, none, none], [vi 4, vi v26, vr 0], (Wd S L F27 G h))) (by decide) [0] rfl trivial ?_
      refine wp.cl am_m118 rfl am_m72 7 [vr 0, vi v26, vi 4] [] rfl (Nat.le_of_ble_eq_true rfl) ⟨(Nat.le_of_ble_eq_true rfl), (Nat.le_of_ble_eq_true rfl)⟩ rfl (Nat.le_of_ble_eq_true rfl) rfl (Nat.le_of_ble_eq_true rfl) (Nat.le_of_ble_eq_true rfl) ⟨_, _, rfl, Nat.le_of_ble_eq_true rfl, rfl⟩ ?_
      refine wp.mono H ?_
      rintro v w1 ⟨v28, rfl, rfl, H⟩
      show wp 12 118 (116, [some (vr 0), some (vi x1), some (vi x2), some (vi x3), some (vi x4), some (vi 1), some (vi x6), some (vi v12), some (vi v13), none, none, none, none, none, none, none, none, none, none, none, none, none, none, none, none, none, none, none, none, none], [vi v28], (Wd S L F27 G h)) _
      obtain ⟨g29, H⟩ := H
      by_cases c30 : v28 = 0
      · rw [if_pos c30] at H
        refine pt118 (s' := (131, [some (vr 0), some (vi x1), some (vi x2), some (vi x3), some (vi x4), some (vi 1), some (vi x6), some (vi v12), some (vi v13), none, none, none, none, none, none, none, none, none, none, none, none, none, none, none, none, none, none, none, none, none], [], (Wd S L F27 G h))) (by decide) [1, 0, 0, 0] rfl ⟨trivial, ⟨g29, c30⟩⟩ ?_
        exact wp.weak (a := [some (vr 0), some (vi x1), some (vi x2), some (vi x3), some (vi x4), some (vi 1), some (vi x6), none, none, none, none, none, none, none, none, none, none, none, none, none, none, none, none, none, none, none, none, none, none, none]) ⟨rfl, rfl, rfl, rfl, rfl, rfl, rfl, trivial⟩ H
      · rw [if_neg c30] at H
        obtain ⟨g31, H⟩ := H
        refine pt118 (s' := (131, [some (vr 0), some (vi x1), some (vi x2), some (vi x3), some (vi x4), some (vi 1), some (vi x6), some (vi v12), some (vi v13), none, none, none, none, none, none, none, none, none, none, none, none, none, none, none, none, none, none, none, none, none], [], (Wd S L F27 G h))) (by decide) [0, 0, 0, 0, 0, 0] rfl ⟨⟨trivial, ⟨g29, c30⟩⟩, ⟨g14, g31⟩⟩ ?_
        exact wp.weak (a := [some (vr 0), some (vi x1), some (vi x2), some (vi x3), some (vi x4), some (vi 1), some (vi x6), none, none, none, none, none, none, none, none, none, none, none, none, none, none, none, none, none, none, none, none, none, none, none]) ⟨rfl, rfl, rfl, rfl, rfl, rfl, rfl, trivial⟩ H
set_option maxRecDepth 100000 in
set_option maxHeartbeats 4000000 in
theorem T118_131 {S L : Nat} {F G : Nat → Nat → Int} {h : Nat → Nat → Option Nat} (hh : RfH h) {x1 : Int} {x2 : Int} {x3 : Int} {x4 : Int} {x6 : Int}  {Q : Option V2 → W2 → Prop}
    (H : C80_0 x6 0 (Wd S L F G h) (fun v w1 => ∃ (v1 : Int), v = some (vi v1) ∧ w1 = (Wd S L F G h) ∧
  (R32 v1 ∧
  ¬ (v1 < 0) ∧
  C80_0 x6 1 (Wd S L F G h) (fun v w1 => ∃ (v4 : Int), v = some (vi v4) ∧ w1 = (Wd S L F G h) ∧
   (R32 (2 * v1) ∧
   R32 v4 ∧
   ¬ (v4 < (2 * v1)) ∧
   C80_0 x6 2 (Wd S L F G h) (fun v w1 => ∃ (v8 : Int), v = some (vi v8) ∧ w1 = (Wd S L F G h) ∧
    (R32 v8 ∧
    v8 = (-1) ∧
    C118_26 x1 x2 x3 x4 (x6 + 1) (Wd S L F G h) Q))))))) : C118_131 x1 x2 x3 x4 x6 (Wd S L F G h) Q := by
  refine pt118 (s' := (135, [some (vr 0), some (vi x1), some (vi x2), some (vi x3), some (vi x4), some (vi 1), some (vi x6), none, none, none, none, none, none, none, none, none, none, none, none, none, none, none, none, none, none, none, none, none, none, none], [vi 0, vi x6, vr 0], (Wd S L F G h))) (by decide) [0, 0, 0] rfl trivial ?_
  refine wp.cl am_m118 rfl am_m80 9 [vr 0, vi x6, vi 0] [] rfl (Nat.le_of_ble_eq_true rfl) ⟨(Nat.le_of_ble_eq_true rfl), (Nat.le_of_ble_eq_true rfl)⟩ rfl (Nat.le_of_ble_eq_true rfl) rfl (Nat.le_of_ble_eq_true rfl) (Nat.le_of_ble_eq_true rfl) ⟨_, _, rfl, Nat.le_of_ble_eq_true rfl, rfl⟩ ?_
  refine wp.mono H ?_
  rintro v w1 ⟨v1, rfl, rfl, H⟩
  show wp 12 118 (138, [some (vr 0), some (vi x1), some (vi x2), some (vi x3), some (vi x4), some (vi 1), some (vi x6), none, none, none, none, none, none, none, none, none, none, none, none, none, none, none, none, none, none, none, none, none, none, none], [vi v1], (Wd S L F G h)) _
  obtain ⟨g2, H⟩ := H
  obtain ⟨g3, H⟩ := H
  refine pt118 (s' := (158, [some (vr 0), some (vi x1), some (vi x2), some (vi x3), some (vi x4), some (vi 1), some (vi x6), none, none, some (vi v1), none, none, none, none, none, none, none, none, none, none, none, none, none, none, none, none, none, none, none, none], [vi 1, vi x6, vr 0, vi (2 * v1)], (Wd S L F G h))) (by decide) [0, 0, 0, 0, 0, 0, 0, 0, 0, 0, 0] rfl ⟨⟨trivial, ⟨(by decide : R32 1), (by decide : ¬ (1 : Int) = (0 : Int))⟩⟩, ⟨g2, g3⟩⟩ ?_
  refine wp.cl am_m118 rfl am_m80 9 [vr 0, vi x6, vi 1] [vi (2 * v1)] rfl (Nat.le_of_ble_eq_true rfl) ⟨(Nat.le_of_ble_eq_true rfl), (Nat.le_of_ble_eq_true rfl)⟩ rfl (Nat.le_of_ble_eq_true rfl) rfl (Nat.le_of_ble_eq_true rfl) (Nat.le_of_ble_eq_true rfl) ⟨_, _, rfl, Nat.le_of_ble_eq_true rfl, rfl⟩ ?_
  refine wp.mono H ?_
  rintro v w1 ⟨v4, rfl, rfl, H⟩
  show wp 12 118 (161, [some (vr 0), some (vi x1), some (vi x2), some (vi x3), some (vi x4), some (vi 1), some (vi x6), none, none, some (vi v1), none, none, none, none, none, none, none, none, none, none, none, none, none, none, none, none, none, none, none, none], [vi v4, vi (2 * v1)], (Wd S L F G h)) _
  obtain ⟨g5, H⟩ := H
  obtain ⟨g6, H⟩ := H
  obtain ⟨g7, H⟩ := H
  refine pt118 (s' := (168, [some (vr 0), some (vi x1), some (vi x2), some (vi x3), some (vi x4), some (vi 1), some (vi x6), none, none, some (vi v1), none, none, none, none, none, none, none, none, none, none, none, none, none, none, none, none, none, none, none, none], [vi 2, vi x6, vr 0], (Wd S L F G h))) (by decide) [0, 0, 0, 0] rfl ⟨trivial, ⟨⟨g5, g6⟩, g7⟩⟩ ?_
  refine wp.cl am_m118 rfl am_m80 9 [vr 0, vi x6, vi 2] [] rfl (Nat.le_of_ble_eq_true rfl) ⟨(Nat.le_of_ble_eq_true rfl), (Nat.le_of_ble_eq_true rfl)⟩ rfl (Nat.le_of_ble_eq_true rfl) rfl (Nat.le_of_ble_eq_true rfl) (Nat.le_of_ble_eq_true rfl) ⟨_, _, rfl, Nat.le_of_ble_eq_true rfl, rfl⟩ ?_
  refine wp.mono H ?_
  rintro v w1 ⟨v8, rfl, rfl, H⟩
  show wp 12 118 (171, [some (vr 0), some (vi x1), some (vi x2), some (vi x3), some (vi x4), some (vi 1), some (vi x6), none, none, some (vi v1), none, none, none, none, none, none, none, none, none, none, none, none, none, none, none, none, none, none, none, none], [vi v8], (Wd S L F G h)) _
  obtain ⟨g9, H⟩ := H
  obtain ⟨g10, H⟩ := H
  refine pt118 (s' := (26, [some (vr 0), some (vi x1), some (vi x2), some (vi x3), some (vi x4), some (vi 1), some (vi (x6 + 1)), none, none, some (vi v1), none, none, none, none, none, none, none, none, none, none, none, none, none, none, none, none, none, none, none, none], [], (Wd S L F G h))) (by decide) [0, 0, 0, 0, 0, 0, 0] rfl ⟨trivial, ⟨⟨g9, (by decide : R32 (-1))⟩, g10⟩⟩ ?_
  exact wp.weak (a := [some (vr 0), some (vi x1), some (vi x2), some (vi x3), some (vi x4), some (vi 1), some (vi (x6 + 1)), none, none, none, none, none, none, none, none, none, none, none, none, none, none, none, none, none, none, none, none, none, none, none]) ⟨rfl, rfl, rfl, rfl, rfl, rfl, rfl, trivial⟩ H
set_option maxRecDepth 100000 in
set_option maxHeartbeats 4000000 in
theorem T118_219 {S L : Nat} {F G : Nat → Nat → Int} {h : Nat → Nat → Option Nat} (hh : RfH h) {x1 : Int} {x2 : Int} {x3 : Int} {x4 : Int} {x6 : Int} {x8 : Int} {x10 : Int} {x11 : Int}  {Q : Option V2 → W2 → Prop}
    (H : (R32 x11 ∧
 R32 x3 ∧
 (if x3 ≤ x11 then
  C79_0 x1 12 (Wd S L F G h) (fun v w1 => ∃ (v4 : Int) (F5 : Nat → Nat → Int) (G6 : Nat → Nat → Int), v = some (vi v4) ∧ w1 = (Wd S L F5 G6 h) ∧
   C79_0 x1 3 (Wd S L F5 G6 h) (fun v w1 => ∃ (v7 : Int) (F8 : Nat → Nat → Int) (G9 : Nat → Nat → Int), v = some (vi v7) ∧ w1 = (Wd S L F8 G9 h) ∧
    (R32 x10 ∧
    ¬ (x10 = 0) ∧
    R64 x6 ∧
    ¬ (x6 < 0) ∧
    R64 (12 * x8) ∧
    ¬ ((12 * x8) < x6) ∧
    (if 1 < x3 then
     C118_623 x1 x2 x3 x4 x6 x8 v4 v7 (Wd S L F8 G9 h) Q
    else
     (x6 = 0 ∧
     R64 x8 ∧
     x8 = 1 ∧
     C118_623 x1 x2 x3 x4 x6 x8 v4 v7 (Wd S L F8 G9 h) Q)))))
 else
  C77_0 x11 x1 0 (Wd S L F G h) (fun v w1 => ∃ (v20 : Int) (F21 : Nat → Nat → Int) (G22 : Nat → Nat → Int), v = some (vj v20) ∧ w1 = (Wd S L F21 G22 h) ∧
   C77_0 x11 x1 1 (Wd S L F21 G22 h) (fun v w1 => ∃ (v23 : Int) (F24 : Nat → Nat → Int) (G25 : Nat → Nat → Int), v = some (vj v23) ∧ w1 = (Wd S L F24 G25 h) ∧
    (R64 v20 ∧
    ¬ (v20 < 0) ∧
    R64 v23 ∧
    ¬ (v23 < 1) ∧
    R64 (12 * v23) ∧
    ¬ ((12 * v23) < v20) ∧
    C114_0 v20 v23 (Wd S L F24 G25 h) (fun v w1 => ∃ (v32 : Int), v = some (vj v32) ∧ w1 = (Wd S L F24 G25 h) ∧
     (R64 v32 ∧
     v32 = 1 ∧
     R32 x4 ∧
     (if x4 = 0 then
      C74_0 x11 0 (Wd S L F24 G25 h) (fun v w1 => ∃ (v37 : Int) (F38 : Nat → Nat → Int), v = some (vi v37) ∧ w1 = (Wd S L F38 G25 h) ∧
       C76_0 v37 x1 0 (Wd S L F38 G25 h) (fun v w1 => ∃ (v39 : Int), v = some (vi v39) ∧ w1 = (Wd S L F38 G25 h) ∧
        (R32 v39 ∧
        v20 = v39 ∧
        C74_0 x11 0 (Wd S L F38 G25 h) (fun v w1 => ∃ (v42 : Int) (F43 : Nat → Nat → Int), v = some (vi v42) ∧ w1 = (Wd S L F43 G25 h) ∧
         C76_0 v42 x1 1 (Wd S L F43 G25 h) (fun v w1 => ∃ (v44 : Int), v = some (vi v44) ∧ w1 = (Wd S L F43 G25 h) ∧
          (R32 v44 ∧
          v23 = v44 ∧
          C118_352 x1 x2 x3 x4 x6 x8 x10 x11 v20 v23 (Wd S L F43 G25 h) Q))))))
     else
      C118_352 x1 x2 x3 x4 x6 x8 x10 x11 v20 v23 (Wd S L F24 G25 h) Q))))))))) : C118_219 x1 x2 x3 x4 x6 x8 x10 x11 (Wd S L F G h) Q := by
  obtain ⟨g1, H⟩ := H
  obtain ⟨g2, H⟩ := H
  refine pt118 (s' := (222, [some (vr 0), some (vi x1), some (vi x2), some (vi x3), some (vi x4), some (vi 1), some (vj x6), none, some (vj x8), none, some (vi x10), some (vi x11), none, none, none, none, none, none, none, none, none, none, none, none, none, none, none, none, none, none], [vi x3, vi x11], (Wd S L F G h))) (by decide) [0, 0] rfl trivial ?_
  by_cases c3 : x3 ≤ x11
  · rw [if_pos c3] at H
    refine pt118 (s' := (562, [some (vr 0), some (vi x1), some (vi x2), some (vi x3), some (vi x4), some (vi 1), some (vj x6), none, some (vj x8), none, some (vi x10), some (vi x11), none, none, none, none, none, none, none, none, none, none, none, none, none, none, none, none, none, none], [vi 12, vi x1, vr 0], (Wd S L F G h))) (by decide) [1, 0, 0, 0] rfl ⟨trivial, ⟨⟨g1, g2⟩, c3⟩⟩ ?_
    refine wp.cl am_m118 rfl am_m79 11 [vr 0, vi x1, vi 12] [] rfl (Nat.le_of_ble_eq_true rfl) ⟨(Nat.le_of_ble_eq_true rfl), (Nat.le_of_ble_eq_true rfl)⟩ rfl (Nat.le_of_ble_eq_true rfl) rfl (Nat.le_of_ble_eq_true rfl) (Nat.le_of_ble_eq_true rfl) ⟨_, _, rfl, Nat.le_of_ble_eq_true rfl, rfl⟩ ?_
    refine wp.mono H ?_
    rintro v w1 ⟨v4, F5, G6, rfl, rfl, H⟩
    show wp 12 118 (565, [some (vr 0), some (vi x1), some (vi x2), some (vi x3), some (vi x4), some (vi 1), some (vj x6), none, some (vj x8), none, some (vi x10), some (vi x11), none, none, none, none, none, none, none, none, none, none, none, none, none, none, none, none, none, none], [vi v4], (Wd S L F5 G6 h)) _
    refine pt118 (s' := (570, [some (vr 0), some (vi x1), some (vi x2), some (vi x3), some (vi x4), some (vi 1), some (vj x6), none, some (vj x8), none, some (vi x10), some (vi v4), none, none, none, none, none, none, none, none, none, none, none, none, none, none, none, none, none, none], [vi 3, vi x1, vr 0], (Wd S L F5 G6 h))) (by decide) [0, 0, 0, 0] rfl trivial ?_
    refine wp.cl am_m118 rfl am_m79 11 [vr 0, vi x1, vi 3] [] rfl (Nat.le_of_ble_eq_true rfl) ⟨(Nat.le_of_ble_eq_true rfl), (Nat.le_of_ble_eq_true rfl)⟩ rfl (Nat.le_of_ble_eq_true rfl) rfl (Nat.le_of_ble_eq_true rfl) (Nat.le_of_ble_eq_true rfl) ⟨_, _, rfl, Nat.le_of_ble_eq_true rfl, rfl⟩ ?_
    refine wp.mono H ?_
    rintro v w1 ⟨v7, F8, G9, rfl, rfl, H⟩
    show wp 12 118 (573, [some (vr 0), some (vi x1), some (vi x2), some (vi x3), some (vi x4), some (vi 1), some (vj x6), none, some (vj x8), none, some (vi x10), some (vi v4), none, none, none, none, none, none, none, none, none, none, none, none, none, none, none, none, none, none], [vi v7], (Wd S L F8 G9 h)) _
    obtain ⟨g10, H⟩ := H
    obtain ⟨g11, H⟩ := H
    obtain ⟨g12, H⟩ := H
    obtain ⟨g13, H⟩ := H
    obtain ⟨g14, H⟩ := H
    obtain ⟨g15, H⟩ := H
    refine pt118 (s' := (606, [some (vr 0), some (vi x1), some (vi x2), some (vi x3), some (vi x4), some (vi 1), some (vj x6), none, some (vj x8), none, some (vi x10), some (vi v4), some (vi v7), none, none, none, none, none, none, none, none, none, none, none, none, none, none, none, none, none], [vi 1, vi x3], (Wd S L F8 G9 h))) (by decide) [0, 0, 0, 0, 0, 0, 0, 0, 0, 0, 0, 0, 0, 0, 0, 0, 0] rfl ⟨⟨⟨⟨⟨⟨trivial, ⟨(by decide : R32 1), (by decide : ¬ (1 : Int) = (0 : Int))⟩⟩, ⟨g10, g11⟩⟩, (Or.inl ⟨g12, (by decide : R64 0)⟩)⟩, ⟨y_cmp_r32, (fun e => g13 (y_cmp_lt.mp e))⟩⟩, (Or.inl ⟨g12, g14⟩)⟩, ⟨y_cmp_r32, (fun e => g15 (y_cmp_gt.mp e))⟩⟩ ?_
    by_cases c16 : 1 < x3
    · rw [if_pos c16] at H
      refine pt118 (s' := (623, [some (vr 0), some (vi x1), some (vi x2), some (vi x3), some (vi x4), some (vi 1), some (vj x6), none, some (vj x8), none, some (vi x10), some (vi v4), some (vi v7), none, none, none, none, none, none, none, none, none, none, none, none, none, none, none, none, none], [], (Wd S L F8 G9 h))) (by decide) [1] rfl ⟨trivial, ⟨⟨g2, (by decide : R32 1)⟩, c16⟩⟩ ?_
      exact wp.weak (a := [some (vr 0), some (vi x1), some (vi x2), some (vi x3), some (vi x4), none, some (vj x6), none, some (vj x8), none, none, some (vi v4), some (vi v7), none, none, none, none, none, none, none, none, none, none, none, none, none, none, none, none, none]) ⟨rfl, rfl, rfl, rfl, rfl, rfl, rfl, rfl, rfl, trivial⟩ H
    · rw [if_neg c16] at H
      obtain ⟨g17, H⟩ := H
      obtain ⟨g18, H⟩ := H
      obtain ⟨g19, H⟩ := H
      refine pt118 (s' := (623, [some (vr 0), some (vi x1), some (vi x2), some (vi x3), some (vi x4), some (vi 1), some (vj x6), none, some (vj x8), none, some (vi x10), some (vi v4), some (vi v7), none, none, none, none, none, none, none, none, none, none, none, none, none, none, none, none, none], [], (Wd S L F8 G9 h))) (by decide) [0, 0, 0, 0, 0, 0, 0, 0, 0] rfl ⟨⟨⟨⟨⟨trivial, ⟨⟨g2, (by decide : R32 1)⟩, c16⟩⟩, (Or.inl ⟨g12, (by decide : R64 0)⟩)⟩, ⟨y_cmp_r32, (y_cmp_eq.mpr g17)⟩⟩, (Or.inl ⟨g18, (by decide : R64 1)⟩)⟩, ⟨y_cmp_r32, (y_cmp_eq.mpr g19)⟩⟩ ?_
      exact wp.weak (a := [some (vr 0), some (vi x1), some (vi x2), some (vi x3), some (vi x4), none, some (vj x6), none, some (vj x8), none, none, some (vi v4), some (vi v7), none, none, none, none, none, none, none, none, none, none, none, none, none, none, none, none, none]) ⟨rfl, rfl, rfl, rfl, rfl, rfl, rfl, rfl, rfl, trivial⟩ H
  · rw [if_neg c3] at H
    refine pt118 (s' := (235, [some (vr 0), some (vi x1), some (vi x2), some (vi x3), some (vi x4), some (vi 1), some (vj x6), none, some (vj x8), none, some (vi x10), some (vi x11), none, none, none, none, none, none, none, none, none, none, none, none, none, none, none, none, none, none], [vi 0, vi x1, vi x11, vr 0], (Wd S L F G h))) (by decide) [0, 0, 0, 0, 0, 0, 0] rfl ⟨⟨trivial, ⟨⟨g1, g2⟩, c3⟩⟩, ⟨(by decide : R32 1), (by decide : ¬ (1 : Int) = (0 : Int))⟩⟩ ?_
    refine wp.cl am_m118 rfl am_m77 11 [vr 0, vi x11, vi x1, vi 0] [] rfl (Nat.le_of_ble_eq_true rfl) ⟨(Nat.le_of_ble_eq_true rfl), (Nat.le_of_ble_eq_true rfl)⟩ rfl (Nat.le_of_ble_eq_true rfl) rfl (Nat.le_of_ble_eq_true rfl) (Nat.le_of_ble_eq_true rfl) ⟨_, _, rfl, Nat.le_of_ble_eq_true rfl, rfl⟩ ?_
    refine wp.mono H ?_
    rintro v w1 ⟨v20, F21, G22, rfl, rfl, H⟩
    show wp 12 118 (238, [some (vr 0), some (vi x1), some (vi x2), some (vi x3), some (vi x4), some (vi 1), some (vj x6), none, some (vj x8), none, some (vi x10), some (vi x11), none, none, none, none, none, none, none, none, none, none, none, none, none, none, none, none, none, none], [vj v20], (Wd S L F21 G22 h)) _
    refine pt118 (s' := (245, [some (vr 0), some (vi x1), some (vi x2), some (vi x3), some (vi x4), some (vi 1), some (vj x6), none, some (vj x8), none, some (vi x10), some (vi x11), some (vj v20), none, none, none, none, none, none, none, none, none, none, none, none, none, none, none, none, none], [vi 1, vi x1, vi x11, vr 0], (Wd S L F21 G22 h))) (by decide) [0, 0, 0, 0, 0] rfl trivial ?_
    refine wp.cl am_m118 rfl am_m77 11 [vr 0, vi x11, vi x1, vi 1] [] rfl (Nat.le_of_ble_eq_true rfl) ⟨(Nat.le_of_ble_eq_true rfl), (Nat.le_of_ble_eq_true rfl)⟩ rfl (Nat.le_of_ble_eq_true rfl) rfl (Nat.le_of_ble_eq_true rfl) (Nat.le_of_ble_eq_true rfl) ⟨_, _, rfl, Nat.le_of_ble_eq_true rfl, rfl⟩ ?_
    refine wp.mono H ?_
    rintro v w1 ⟨v23, F24, G25, rfl, rfl, H⟩
    show wp 12 118 (248, [some (vr 0), some (vi x1), some (vi x2), some (vi x3), some (vi x4), some (vi 1), some (vj x6), none, some (vj x8), none, some (vi x10), some (vi x11), some (vj v20), none, none, none, none, none, none, none, none, none, none, none, none, none, none, none, none, none], [vj v23], (Wd S L F24 G25 h)) _
    obtain ⟨g26, H⟩ := H
    obtain ⟨g27, H⟩ := H
    obtain ⟨g28, H⟩ := H
    obtain ⟨g29, H⟩ := H
    obtain ⟨g30, H⟩ := H
    obtain ⟨g31, H⟩ := H
    refine pt118 (s' := (280, [some (vr 0), some (vi x1), some (vi x2), some (vi x3), some (vi x4), some (vi 1), some (vj x6), none, some (vj x8), none, some (vi x10), some (vi x11), some (vj v20), none, some (vj v23), none, none, none, none, none, none, none, none, none, none, none, none, none, none, none], [vj v23, vj v20], (Wd S L F24 G25 h))) (by decide) [0, 0, 0, 0, 0, 0, 0, 0, 0, 0, 0, 0, 0, 0, 0, 0, 0] rfl ⟨⟨⟨⟨⟨⟨trivial, (Or.inl ⟨g26, (by decide : R64 0)⟩)⟩, ⟨y_cmp_r32, (fun e => g27 (y_cmp_lt.mp e))⟩⟩, (Or.inl ⟨g28, (by decide : R64 1)⟩)⟩, ⟨y_cmp_r32, (fun e => g29 (y_cmp_lt.mp e))⟩⟩, (Or.inl ⟨g26, g30⟩)⟩, ⟨y_cmp_r32, (fun e => g31 (y_cmp_gt.mp e))⟩⟩ ?_
    refine wp.cl am_m118 rfl am_m114 6 [vj v20, vj v23] [] rfl (Nat.le_of_ble_eq_true rfl) ⟨(Nat.le_of_ble_eq_true rfl), (Nat.le_of_ble_eq_true rfl)⟩ rfl (Nat.le_of_ble_eq_true rfl) rfl (Nat.le_of_ble_eq_true rfl) (Nat.le_of_ble_eq_true rfl) trivial ?_
    refine wp.mono H ?_
    rintro v w1 ⟨v32, rfl, rfl, H⟩
    show wp 12 118 (283, [some (vr 0), some (vi x1), some (vi x2), some (vi x3), some (vi x4), some (vi 1), some (vj x6), none, some (vj x8), none, some (vi x10), some (vi x11), some (vj v20), none, some (vj v23), none, none, none, none, none, none, none, none, none, none, none, none, none, none, none], [vj v32], (Wd S L F24 G25 h)) _
    obtain ⟨g33, H⟩ := H
    obtain ⟨g34, H⟩ := H
    obtain ⟨g35, H⟩ := H
    refine pt118 (s' := (297, [some (vr 0), some (vi x1), some (vi x2), some (vi x3), some (vi x4), some (vi 1), some (vj x6), none, some (vj x8), none, some (vi x10), some (vi x11), some (vj v20), none, some (vj v23), none, none, none, none, none, none, none, none, none, none, none, none, none, none, none], [vi x4], (Wd S L F24 G25 h))) (by decide) [0, 0, 0, 0, 0, 0, 0] rfl ⟨⟨trivial, (Or.inl ⟨g33, (by decide : R64 1)⟩)⟩, ⟨y_cmp_r32, (y_cmp_eq.mpr g34)⟩⟩ ?_
    by_cases c36 : x4 = 0
    · rw [if_pos c36] at H
      refine pt118 (s' := (312, [some (vr 0), some (vi x1), some (vi x2), some (vi x3), some (vi x4), some (vi 1), some (vj x6), none, some (vj x8), none, some (vi x10), some (vi x11), some (vj v20), none, some (vj v23), none, none, none, none, none, none, none, none, none, none, none, none, none, none, none], [vi 0, vi x11, vr 0, vr 0, vj v20], (Wd S L F24 G25 h))) (by decide) [0, 0, 0, 0, 0, 0, 0, 0] rfl ⟨⟨trivial, ⟨g35, c36⟩⟩, ⟨(by decide : R32 1), (by decide : ¬ (1 : Int) = (0 : Int))⟩⟩ ?_
      refine wp.cl am_m118 rfl am_m74 11 [vr 0, vi x11, vi 0] [vr 0, vj v20] rfl (Nat.le_of_ble_eq_true rfl) ⟨(Nat.le_of_ble_eq_true rfl), (Nat.le_of_ble_eq_true rfl)⟩ rfl (Nat.le_of_ble_eq_true rfl) rfl (Nat.le_of_ble_eq_true rfl) (Nat.le_of_ble_eq_true rfl) ⟨_, _, rfl, Nat.le_of_ble_eq_true rfl, rfl⟩ ?_
      refine wp.mono H ?_
      rintro v w1 ⟨v37, F38, rfl, rfl, H⟩
      show wp 12 118 (315, [some (vr 0), some (vi x1), some (vi x2), some (vi x3), some (vi x4), some (vi 1), some (vj x6), none, some (vj x8), none, some (vi x10), some (vi x11), some (vj v20), none, some (vj v23), none, none, none, none, none, none, none, none, none, none, none, none, none, none, none], [vi v37, vr 0, vj v20], (Wd S L F38 G25 h)) _
      refine pt118 (s' := (317, [some (vr 0), some (vi x1), some (vi x2), some (vi x3), some (vi x4), some (vi 1), some (vj x6), none, some (vj x8), none, some (vi x10), some (vi x11), some (vj v20), none, some (vj v23), none, none, none, none, none, none, none, none, none, none, none, none, none, none, none], [vi 0, vi x1, vi v37, vr 0, vj v20], (Wd S L F38 G25 h))) (by decide) [0, 0] rfl trivial ?_
      refine wp.cl am_m118 rfl am_m76 8 [vr 0, vi v37, vi x1, vi 0] [vj v20] rfl (Nat.le_of_ble_eq_true rfl) ⟨(Nat.le_of_ble_eq_true rfl), (Nat.le_of_ble_eq_true rfl)⟩ rfl (Nat.le_of_ble_eq_true rfl) rfl (Nat.le_of_ble_eq_true rfl) (Nat.le_of_ble_eq_true rfl) ⟨_, _, rfl, Nat.le_of_ble_eq_true rfl, rfl⟩ ?_
      refine wp.mono H ?_
      rintro v w1 ⟨v39, rfl, rfl, H⟩
      show wp 12 118 (320, [some (vr 0), some (vi x1), some (vi x2), some (vi x3), some (vi x4), some (vi 1), some (vj x6), none, some (vj x8), none, some (vi x10), some (vi x11), some (vj v20), none, some (vj v23), none, none, none, none, none, none, none, none, none, none, none, none, none, none, none], [vi v39, vj v20], (Wd S L F38 G25 h)) _
      obtain ⟨g40, H⟩ := H
      obtain ⟨g41, H⟩ := H
      refine pt118 (s' := (332, [some (vr 0), some (vi x1), some (vi x2), some (vi x3), some (vi x4), some (vi 1), some (vj x6), none, some (vj x8), none, some (vi x10), some (vi x11), some (vj v20), none, some (vj v23), none, none, none, none, none, none, none, none, none, none, none, none, none, none, none], [vi 0, vi x11, vr 0, vr 0, vj v23], (Wd S L F38 G25 h))) (by decide) [0, 0, 0, 0, 0, 0, 0, 0] rfl ⟨⟨⟨trivial, g40⟩, (Or.inl ⟨g26, (r64 g40)⟩)⟩, ⟨y_cmp_r32, (y_cmp_eq.mpr g41)⟩⟩ ?_
      refine wp.cl am_m118 rfl am_m74 11 [vr 0, vi x11, vi 0] [vr 0, vj v23] rfl (Nat.le_of_ble_eq_true rfl) ⟨(Nat.le_of_ble_eq_true rfl), (Nat.le_of_ble_eq_true rfl)⟩ rfl (Nat.le_of_ble_eq_true rfl) rfl (Nat.le_of_ble_eq_true rfl) (Nat.le_of_ble_eq_true rfl) ⟨_, _, rfl, Nat.le_of_ble_eq_true rfl, rfl⟩ ?_
      refine wp.mono H ?_
      rintro v w1 ⟨v42, F43, rfl, rfl, H⟩
      show wp 12 118 (335, [some (vr 0), some (vi x1), some (vi x2), some (vi x3), some (vi x4), some (vi 1), some (vj x6), none, some (vj x8), none, some (vi x10), some (vi x11), some (vj v20), none, some (vj v23), none, none, none, none, none, none, none, none, none, none, none, none, none, none, none], [vi v42, vr 0, vj v23], (Wd S L F43 G25 h)) _
      refine pt118 (s' := (337, [some (vr 0), some (vi x1), some (vi x2), some (vi x3), some (vi x4), some (vi 1), some (vj x6), none, some (vj x8), none, some (vi x10), some (vi x11), some (vj v20), none, some (vj v23), none, none, none, none, none, none, none, none, none, none, none, none, none, none, none], [vi 1, vi x1, vi v42, vr 0, vj v23], (Wd S L F43 G25 h))) (by decide) [0, 0] rfl trivial ?_
      refine wp.cl am_m118 rfl am_m76 8 [vr 0, vi v42, vi x1, vi 1] [vj v23] rfl (Nat.le_of_ble_eq_true rfl) ⟨(Nat.le_of_ble_eq_true rfl), (Nat.le_of_ble_eq_true rfl)⟩ rfl (Nat.le_of_ble_eq_true rfl) rfl (Nat.le_of_ble_eq_true rfl) (Nat.le_of_ble_eq_true rfl) ⟨_, _, rfl, Nat.le_of_ble_eq_true rfl, rfl⟩ ?_
      refine wp.mono H ?_
      rintro v w1 ⟨v44, rfl, rfl, H⟩
      show wp 12 118 (340, [some (vr 0), some (vi x1), some (vi x2), some (vi x3), some (vi x4), some (vi 1), some (vj x6), none, some (vj x8), none, some (vi x10), some (vi x11), some (vj v20), none, some (vj v23), none, none, none, none, none, none, none, none, none, none, none, none, none, none, none], [vi v44, vj v23], (Wd S L F43 G25 h)) _
      obtain ⟨g45, H⟩ := H
      obtain ⟨g46, H⟩ := H
      refine pt118 (s' := (352, [some (vr 0), some (vi x1), some (vi x2), some (vi x3), some (vi x4), some (vi 1), some (vj x6), none, some (vj x8), none, some (vi x10), some (vi x11), some (vj v20), none, some (vj v23), none, none, none, none, none, none, none, none, none, none, none, none, none, none, none], [], (Wd S L F43 G25 h))) (by decide) [0, 0, 0, 0, 0, 0] rfl ⟨⟨⟨trivial, g45⟩, (Or.inl ⟨g28, (r64 g45)⟩)⟩, ⟨y_cmp_r32, (y_cmp_eq.mpr g46)⟩⟩ ?_
      exact wp.weak (a := [some (vr 0), some (vi x1), some (vi x2), some (vi x3), some (vi x4), some (vi 1), some (vj x6), none, some (vj x8), none, some (vi x10), some (vi x11), some (vj v20), none, some (vj v23), none, none, none, none, none, none, none, none, none, none, none, none, none, none, none]) ⟨rfl, rfl, rfl, rfl, rfl, rfl, rfl, rfl, rfl, rfl, rfl, rfl, trivial⟩ H
    · rw [if_neg c36] at H
      refine pt118 (s' := (352, [some (vr 0), some (vi x1), some (vi x2), some (vi x3), some (vi x4), some (vi 1), some (vj x6), none, some (vj x8), none, some (vi x10), some (vi x11), some (vj v20), none, some (vj v23), none, none, none, none, none, none, none, none, none, none, none, none, none, none, none], [], (Wd S L F24 G25 h))) (by decide) [1] rfl ⟨trivial, ⟨g35, c36⟩⟩ ?_
      exact wp.weak (a := [some (vr 0), some (vi x1), some (vi x2), some (vi x3), some (vi x4), some (vi 1), some (vj x6), none, some (vj x8), none, some (vi x10), some (vi x11), some (vj v20), none, some (vj v23), none, none, none, none, none, none, none, none, none, none, none, none, none, none, none]) ⟨rfl, rfl, rfl, rfl, rfl, rfl, rfl, rfl, rfl, rfl, rfl, rfl, trivial⟩ H
set_option maxRecDepth 100000 in
set_option maxHeartbeats 4000000 in
theorem T118_352 {S L : Nat} {F G : Nat → Nat → Int} {h : Nat → Nat → Option Nat} (hh : RfH h) {x1 : Int} {x2 : Int} {x3 : Int} {x4 : Int} {x6 : Int} {x8 : Int} {x10 : Int} {x11 : Int} {x12 : Int} {x14 : Int}  {Q : Option V2 → W2 → Prop}
    (H : (R32 x11 ∧
 (if x11 ≤ 0 then
  C118_219 x1 x2 x3 x4 x6 x8 x10 (x11 + 1) (Wd S L F G h) Q
 else
  C77_0 (x11 - 1) x1 0 (Wd S L F G h) (fun v w1 => ∃ (v3 : Int) (F4 : Nat → Nat → Int) (G5 : Nat → Nat → Int), v = some (vj v3) ∧ w1 = (Wd S L F4 G5 h) ∧
   C77_0 (x11 - 1) x1 1 (Wd S L F4 G5 h) (fun v w1 => ∃ (v6 : Int) (F7 : Nat → Nat → Int) (G8 : Nat → Nat → Int), v = some (vj v6) ∧ w1 = (Wd S L F7 G8 h) ∧
    C114_0 x14 v6 (Wd S L F7 G8 h) (fun v w1 => ∃ (v9 : Int), v = some (vj v9) ∧ w1 = (Wd S L F7 G8 h) ∧
     (((0 : Int) ≤ x14 ∧ (x14 : Int) ≤ 9223372036854775807 ∧ 0 < v9 ∧ v9 ≤ 9223372036854775807) ∧
     ((0 : Int) ≤ ((x14 / v9) * v6) ∧ (((x14 / v9) * v6) : Int) ≤ 9223372036854775807 ∧ 0 < x14 ∧ x14 ≤ 9223372036854775807) ∧
     ((0 : Int) ≤ ((x14 / v9) * v6) ∧ (((x14 / v9) * v6) : Int) ≤ 9223372036854775807 ∧ 0 < v6 ∧ v6 ≤ 9223372036854775807) ∧
     R64 ((x12 * (((x14 / v9) * v6) / x14)) - (v3 * (((x14 / v9) * v6) / v6))) ∧
     (if 0 ≤ ((x12 * (((x14 / v9) * v6) / x14)) - (v3 * (((x14 / v9) * v6) / v6))) then
      C118_437 x1 x2 x3 x4 x6 x8 x10 x11 ((x14 / v9) * v6) ((x12 * (((x14 / v9) * v6) / x14)) - (v3 * (((x14 / v9) * v6) / v6))) (Wd S L F7 G8 h) Q
     else
      C118_437 x1 x2 x3 x4 x6 x8 x10 x11 ((x14 / v9) * v6) (-((x12 * (((x14 / v9) * v6) / x14)) - (v3 * (((x14 / v9) * v6) / v6)))) (Wd S L F7 G8 h) Q)))))))) : C118_352 x1 x2 x3 x4 x6 x8 x10 x11 x12 x14 (Wd S L F G h) Q := by
  obtain ⟨g1, H⟩ := H
  refine pt118 (s' := (354, [some (vr 0), some (vi x1), some (vi x2), some (vi x3), some (vi x4), some (vi 1), some (vj x6), none, some (vj x8), none, some (vi x10), some (vi x11), some (vj x12), none, some (vj x14), none, none, none, none, none, none, none, none, none, none, none, none, none, none, none], [vi x11], (Wd S L F G h))) (by decide) [0] rfl trivial ?_
  by_cases c2 : x11 ≤ 0
  · rw [if_pos c2] at H
    refine pt118 (s' := (219, [some (vr 0), some (vi x1), some (vi x2), some (vi x3), some (vi x4), some (vi 1), some (vj x6), none, some (vj x8), none, some (vi x10), some (vi (x11 + 1)), some (vj x12), none, some (vj x14), none, none, none, none, none, none, none, none, none, none, none, none, none, none, none], [], (Wd S L F G h))) (by decide) [1, 0, 0] rfl ⟨trivial, ⟨g1, c2⟩⟩ ?_
    exact wp.weak (a := [some (vr 0), some (vi x1), some (vi x2), some (vi x3), some (vi x4), some (vi 1), some (vj x6), none, some (vj x8), none, some (vi x10), some (vi (x11 + 1)), none, none, none, none, none, none, none, none, none, none, none, none, none, none, none, none, none, none]) ⟨rfl, rfl, rfl, rfl, rfl, rfl, rfl, rfl, rfl, rfl, trivial⟩ H
  · rw [if_neg c2] at H
    refine pt118 (s' := (369, [some (vr 0), some (vi x1), some (vi x2), some (vi x3), some (vi x4), some (vi 1), some (vj x6), none, some (vj x8), none, some (vi x10), some (vi x11), some (vj x12), none, some (vj x14), none, none, none, none, none, none, none, none, none, none, none, none, none, none, none], [vi 0, vi x1, vi (x11 - 1), vr 0], (Wd S L F G h))) (by decide) [0, 0, 0, 0, 0, 0, 0, 0, 0] rfl ⟨⟨trivial, ⟨g1, c2⟩⟩, ⟨(by decide : R32 1), (by decide : ¬ (1 : Int) = (0 : Int))⟩⟩ ?_
    refine wp.cl am_m118 rfl am_m77 11 [vr 0, vi (x11 - 1), vi x1, vi 0] [] rfl (Nat.le_of_ble_eq_true rfl) ⟨(Nat.le_of_ble_eq_true rfl), (Nat.le_of_ble_eq_true rfl)⟩ rfl (Nat.le_of_ble_eq_true rfl) rfl (Nat.le_of_ble_eq_true rfl) (Nat.le_of_ble_eq_true rfl) ⟨_, _, rfl, Nat.le_of_ble_eq_true rfl, rfl⟩ ?_
    refine wp.mono H ?_
    rintro v w1 ⟨v3, F4, G5, rfl, rfl, H⟩
    show wp 12 118 (372, [some (vr 0), some (vi x1), some (vi x2), some (vi x3), some (vi x4), some (vi 1), some (vj x6), none, some (vj x8), none, some (vi x10), some (vi x11), some (vj x12), none, some (vj x14), none, none, none, none, none, none, none, none, none, none, none, none, none, none, none], [vj v3], (Wd S L F4 G5 h)) _
    refine pt118 (s' := (381, [some (vr 0), some (vi x1), some (vi x2), some (vi x3), some (vi x4), some (vi 1), some (vj x6), none, some (vj x8), none, some (vi x10), some (vi x11), some (vj x12), none, some (vj x14), none, some (vj v3), none, none, none, none, none, none, none, none, none, none, none, none, none], [vi 1, vi x1, vi (x11 - 1), vr 0], (Wd S L F4 G5 h))) (by decide) [0, 0, 0, 0, 0, 0, 0] rfl trivial ?_
    refine wp.cl am_m118 rfl am_m77 11 [vr 0, vi (x11 - 1), vi x1, vi 1] [] rfl (Nat.le_of_ble_eq_true rfl) ⟨(Nat.le_of_ble_eq_true rfl), (Nat.le_of_ble_eq_true rfl)⟩ rfl (Nat.le_of_ble_eq_true rfl) rfl (Nat.le_of_ble_eq_true rfl) (Nat.le_of_ble_eq_true rfl) ⟨_, _, rfl, Nat.le_of_ble_eq_true rfl, rfl⟩ ?_
    refine wp.mono H ?_
    rintro v w1 ⟨v6, F7, G8, rfl, rfl, H⟩
    show wp 12 118 (384, [some (vr 0), some (vi x1), some (vi x2), some (vi x3), some (vi x4), some (vi 1), some (vj x6), none, some (vj x8), none, some (vi x10), some (vi x11), some (vj x12), none, some (vj x14), none, some (vj v3), none, none, none, none, none, none, none, none, none, none, none, none, none], [vj v6], (Wd S L F7 G8 h)) _
    refine pt118 (s' := (392, [some (vr 0), some (vi x1), some (vi x2), some (vi x3), some (vi x4), some (vi 1), some (vj x6), none, some (vj x8), none, some (vi x10), some (vi x11), some (vj x12), none, some (vj x14), none, some (vj v3), none, some (vj v6), none, none, none, none, none, none, none, none, none, none, none], [vj v6, vj x14, vj x14], (Wd S L F7 G8 h))) (by decide) [0, 0, 0, 0] rfl trivial ?_
    refine wp.cl am_m118 rfl am_m114 6 [vj x14, vj v6] [vj x14] rfl (Nat.le_of_ble_eq_true rfl) ⟨(Nat.le_of_ble_eq_true rfl), (Nat.le_of_ble_eq_true rfl)⟩ rfl (Nat.le_of_ble_eq_true rfl) rfl (Nat.le_of_ble_eq_true rfl) (Nat.le_of_ble_eq_true rfl) trivial ?_
    refine wp.mono H ?_
    rintro v w1 ⟨v9, rfl, rfl, H⟩
    show wp 12 118 (395, [some (vr 0), some (vi x1), some (vi x2), some (vi x3), some (vi x4), some (vi 1), some (vj x6), none, some (vj x8), none, some (vi x10), some (vi x11), some (vj x12), none, some (vj x14), none, some (vj v3), none, some (vj v6), none, none, none, none, none, none, none, none, none, none, none], [vj v9, vj x14], (Wd S L F7 G8 h)) _
    obtain ⟨g10, H⟩ := H
    obtain ⟨g11, H⟩ := H
    obtain ⟨g12, H⟩ := H
    obtain ⟨g13, H⟩ := H
    refine pt118 (s' := (424, [some (vr 0), some (vi x1), some (vi x2), some (vi x3), some (vi x4), some (vi 1), some (vj x6), none, some (vj x8), none, some (vi x10), some (vi x11), some (vj x12), none, some (vj x14), none, some (vj v3), none, some (vj v6), none, some (vj ((x14 / v9) * v6)), none, some (vj ((x12 * (((x14 / v9) * v6) / x14)) - (v3 * (((x14 / v9) * v6) / v6)))), none, none, none, none, none, none, none], [vi (y_cmp ((x12 * (((x14 / v9) * v6) / x14)) - (v3 * (((x14 / v9) * v6) / v6))) 0)], (Wd S L F7 G8 h))) (by decide) [0, 0, 0, 0, 0, 0, 0, 0, 0, 0, 0, 0, 0, 0, 0, 0, 0, 0, 0] rfl ⟨⟨⟨⟨trivial, g10⟩, g11⟩, g12⟩, (Or.inl ⟨g13, (by decide : R64 0)⟩)⟩ ?_
    by_cases c14 : 0 ≤ ((x12 * (((x14 / v9) * v6) / x14)) - (v3 * (((x14 / v9) * v6) / v6)))
    · rw [if_pos c14] at H
      refine pt118 (s' := (437, [some (vr 0), some (vi x1), some (vi x2), some (vi x3), some (vi x4), some (vi 1), some (vj x6), none, some (vj x8), none, some (vi x10), some (vi x11), some (vj x12), none, some (vj x14), none, some (vj v3), none, some (vj v6), none, some (vj ((x14 / v9) * v6)), none, some (vj ((x12 * (((x14 / v9) * v6) / x14)) - (v3 * (((x14 / v9) * v6) / v6)))), none, none, none, none, none, none, none], [], (Wd S L F7 G8 h))) (by decide) [1, 0, 0] rfl ⟨trivial, ⟨y_cmp_r32, (y_cmp_ge.mpr c14)⟩⟩ ?_
      exact wp.weak (a := [some (vr 0), some (vi x1), some (vi x2), some (vi x3), some (vi x4), none, some (vj x6), none, some (vj x8), none, some (vi x10), some (vi x11), none, none, none, none, none, none, none, none, some (vj ((x14 / v9) * v6)), none, some (vj ((x12 * (((x14 / v9) * v6) / x14)) - (v3 * (((x14 / v9) * v6) / v6)))), none, none, none, none, none, none, none]) ⟨rfl, rfl, rfl, rfl, rfl, rfl, rfl, rfl, rfl, rfl, rfl, trivial⟩ H
    · rw [if_neg c14] at H
      refine pt118 (s' := (437, [some (vr 0), some (vi x1), some (vi x2), some (vi x3), some (vi x4), some (vi 1), some (vj x6), none, some (vj x8), none, some (vi x10), some (vi x11), some (vj x12), none, some (vj x14), none, some (vj v3), none, some (vj v6), none, some (vj ((x14 / v9) * v6)), none, some (vj (-((x12 * (((x14 / v9) * v6) / x14)) - (v3 * (((x14 / v9) * v6) / v6))))), none, none, none, none, none, none, none], [], (Wd S L F7 G8 h))) (by decide) [0, 0, 0, 0, 0] rfl ⟨trivial, ⟨y_cmp_r32, (fun e => c14 (y_cmp_ge.mp e))⟩⟩ ?_
      exact wp.weak (a := [some (vr 0), some (vi x1), some (vi x2), some (vi x3), some (vi x4), none, some (vj x6), none, some (vj x8), none, some (vi x10), some (vi x11), none, none, none, none, none, none, none, none, some (vj ((x14 / v9) * v6)), none, some (vj (-((x12 * (((x14 / v9) * v6) / x14)) - (v3 * (((x14 / v9) * v6) / v6))))), none, none, none, none, none, none, none]) ⟨rfl, rfl, rfl, rfl, rfl, rfl, rfl, rfl, rfl, rfl, rfl, trivial⟩ H
set_option maxRecDepth 100000 in
set_option maxHeartbeats 4000000 in
theorem T118_437 {S L : Nat} {F G : Nat → Nat → Int} {h : Nat → Nat → Option Nat} (hh : RfH h) {x1 : Int} {x2 : Int} {x3 : Int} {x4 : Int} {x6 : Int} {x8 : Int} {x10 : Int} {x11 : Int} {x20 : Int} {x22 : Int}  {Q : Option V2 → W2 → Prop}
    (H : C114_0 x22 x20 (Wd S L F G h) (fun v w1 => ∃ (v1 : Int), v = some (vj v1) ∧ w1 = (Wd S L F G h) ∧
  (((0 : Int) ≤ x22 ∧ (x22 : Int) ≤ 9223372036854775807 ∧ 0 < v1 ∧ v1 ≤ 9223372036854775807) ∧
  ((0 : Int) ≤ x20 ∧ (x20 : Int) ≤ 9223372036854775807 ∧ 0 < v1 ∧ v1 ≤ 9223372036854775807) ∧
  ((0 : Int) ≤ (x22 / v1) ∧ ((x22 / v1) : Int) ≤ 9223372036854775807 ∧ 0 < (x20 / v1) ∧ (x20 / v1) ≤ 9223372036854775807) ∧
  ((0 : Int) ≤ x6 ∧ (x6 : Int) ≤ 9223372036854775807 ∧ 0 < x8 ∧ x8 ≤ 9223372036854775807) ∧
  R64 ((x22 / v1) / (x20 / v1)) ∧
  R64 (x6 / x8) ∧
  (if ((x22 / v1) / (x20 / v1)) < (x6 / x8) then
   C118_518 x1 x2 x3 x4 x6 x8 x10 x11 x20 x22 v1 (Wd S L F G h) Q
  else
   (((x22 / v1) / (x20 / v1)) = (x6 / x8) ∧
   R64 (((x22 / v1) % (x20 / v1)) * x8) ∧
   R64 ((x6 % x8) * (x20 / v1)) ∧
   ¬ (((x6 % x8) * (x20 / v1)) < (((x22 / v1) % (x20 / v1)) * x8)) ∧
   C118_518 x1 x2 x3 x4 x6 x8 x10 x11 x20 x22 v1 (Wd S L F G h) Q))))) : C118_437 x1 x2 x3 x4 x6 x8 x10 x11 x20 x22 (Wd S L F G h) Q := by
  refine pt118 (s' := (441, [some (vr 0), some (vi x1), some (vi x2), some (vi x3), some (vi x4), none, some (vj x6), none, some (vj x8), none, some (vi x10), some (vi x11), none, none, none, none, none, none, none, none, some (vj x20), none, some (vj x22), none, none, none, none, none, none, none], [vj x20, vj x22], (Wd S L F G h))) (by decide) [0, 0] rfl trivial ?_
  refine wp.cl am_m118 rfl am_m114 6 [vj x22, vj x20] [] rfl (Nat.le_of_ble_eq_true rfl) ⟨(Nat.le_of_ble_eq_true rfl), (Nat.le_of_ble_eq_true rfl)⟩ rfl (Nat.le_of_ble_eq_true rfl) rfl (Nat.le_of_ble_eq_true rfl) (Nat.le_of_ble_eq_true rfl) trivial ?_
  refine wp.mono H ?_
  rintro v w1 ⟨v1, rfl, rfl, H⟩
  show wp 12 118 (444, [some (vr 0), some (vi x1), some (vi x2), some (vi x3), some (vi x4), none, some (vj x6), none, some (vj x8), none, some (vi x10), some (vi x11), none, none, none, none, none, none, none, none, some (vj x20), none, some (vj x22), none, none, none, none, none, none, none], [vj v1], (Wd S L F G h)) _
  obtain ⟨g2, H⟩ := H
  obtain ⟨g3, H⟩ := H
  obtain ⟨g4, H⟩ := H
  obtain ⟨g5, H⟩ := H
  obtain ⟨g6, H⟩ := H
  obtain ⟨g7, H⟩ := H
  refine pt118 (s' := (471, [some (vr 0), some (vi x1), some (vi x2), some (vi x3), some (vi x4), none, some (vj x6), none, some (vj x8), none, some (vi x10), some (vi x11), none, none, none, none, none, none, none, none, some (vj x20), none, some (vj x22), none, some (vj v1), none, some (vj ((x22 / v1) / (x20 / v1))), none, some (vj (x6 / x8)), none], [vi (y_cmp ((x22 / v1) / (x20 / v1)) (x6 / x8))], (Wd S L F G h))) (by decide) [0, 0, 0, 0, 0, 0, 0, 0, 0, 0, 0, 0, 0, 0, 0, 0] rfl ⟨⟨⟨⟨⟨trivial, g2⟩, g3⟩, g4⟩, g5⟩, (Or.inl ⟨g6, g7⟩)⟩ ?_
  by_cases c8 : ((x22 / v1) / (x20 / v1)) < (x6 / x8)
  · rw [if_pos c8] at H
    refine pt118 (s' := (518, [some (vr 0), some (vi x1), some (vi x2), some (vi x3), some (vi x4), some (vi 1), some (vj x6), none, some (vj x8), none, some (vi x10), some (vi x11), none, none, none, none, none, none, none, none, some (vj x20), none, some (vj x22), none, some (vj v1), none, some (vj ((x22 / v1) / (x20 / v1))), none, some (vj (x6 / x8)), none], [], (Wd S L F G h))) (by decide) [1, 0, 0, 0] rfl ⟨trivial, ⟨y_cmp_r32, (y_cmp_lt.mpr c8)⟩⟩ ?_
    exact wp.weak (a := [some (vr 0), some (vi x1), some (vi x2), some (vi x3), some (vi x4), some (vi 1), some (vj x6), none, some (vj x8), none, some (vi x10), some (vi x11), none, none, none, none, none, none, none, none, some (vj x20), none, some (vj x22), none, some (vj v1), none, none, none, none, none]) ⟨rfl, rfl, rfl, rfl, rfl, rfl, rfl, rfl, rfl, rfl, rfl, rfl, rfl, trivial⟩ H
  · rw [if_neg c8] at H
    obtain ⟨g9, H⟩ := H
    obtain ⟨g10, H⟩ := H
    obtain ⟨g11, H⟩ := H
    obtain ⟨g12, H⟩ := H
    refine pt118 (s' := (518, [some (vr 0), some (vi x1), some (vi x2), some (vi x3), some (vi x4), some (vi 1), some (vj x6), none, some (vj x8), none, some (vi x10), some (vi x11), none, none, none, none, none, none, none, none, some (vj x20), none, some (vj x22), none, some (vj v1), none, some (vj ((x22 / v1) / (x20 / v1))), none, some (vj (x6 / x8)), none], [], (Wd S L F G h))) (by decide) [0, 0, 0, 0, 0, 0, 0, 0, 0, 0, 0, 0, 0, 0, 0, 0, 0, 0, 0, 0, 0, 0, 0, 0, 0, 0] rfl ⟨⟨⟨⟨⟨⟨⟨⟨⟨⟨trivial, ⟨y_cmp_r32, (fun e => c8 (y_cmp_lt.mp e))⟩⟩, (Or.inl ⟨g6, g7⟩)⟩, ⟨y_cmp_r32, (y_cmp_eq.mpr g9)⟩⟩, g2⟩, g3⟩, g4⟩, g5⟩, g3⟩, (Or.inl ⟨g10, g11⟩)⟩, ⟨y_cmp_r32, (fun e => g12 (y_cmp_gt.mp e))⟩⟩ ?_
    exact wp.weak (a := [some (vr 0), some (vi x1), some (vi x2), some (vi x3), some (vi x4), some (vi 1), some (vj x6), none, some (vj x8), none, some (vi x10), some (vi x11), none, none, none, none, none, none, none, none, some (vj x20), none, some (vj x22), none, some (vj v1), none, none, none, none, none]) ⟨rfl, rfl, rfl, rfl, rfl, rfl, rfl, rfl, rfl, rfl, rfl, rfl, rfl, trivial⟩ H
set_option maxRecDepth 100000 in
set_option maxHeartbeats 4000000 in
theorem T118_518 {S L : Nat} {F G : Nat → Nat → Int} {h : Nat → Nat → Option Nat} (hh : RfH h) {x1 : Int} {x2 : Int} {x3 : Int} {x4 : Int} {x6 : Int} {x8 : Int} {x10 : Int} {x11 : Int} {x20 : Int} {x22 : Int} {x24 : Int}  {Q : Option V2 → W2 → Prop}
    (H : (R32 x10 ∧
 (if x10 = 0 then
  (((0 : Int) ≤ x22 ∧ (x22 : Int) ≤ 9223372036854775807 ∧ 0 < x24 ∧ x24 ≤ 9223372036854775807) ∧
  R64 (x22 / x24) ∧
  R64 x6 ∧
  (if (x22 / x24) = x6 then
   (((0 : Int) ≤ x20 ∧ (x20 : Int) ≤ 9223372036854775807 ∧ 0 < x24 ∧ x24 ≤ 9223372036854775807) ∧
   R64 (x20 / x24) ∧
   R64 x8 ∧
   (if (x20 / x24) = x8 then
    C118_219 x1 x2 x3 x4 x6 x8 1 (x11 + 1) (Wd S L F G h) Q
   else
    C118_219 x1 x2 x3 x4 x6 x8 0 (x11 + 1) (Wd S L F G h) Q))
  else
   C118_219 x1 x2 x3 x4 x6 x8 0 (x11 + 1) (Wd S L F G h) Q))
 else
  C118_219 x1 x2 x3 x4 x6 x8 1 (x11 + 1) (Wd S L F G h) Q))) : C118_518 x1 x2 x3 x4 x6 x8 x10 x11 x20 x22 x24 (Wd S L F G h) Q := by
  obtain ⟨g1, H⟩ := H
  refine pt118 (s' := (520, [some (vr 0), some (vi x1), some (vi x2), some (vi x3), some (vi x4), some (vi 1), some (vj x6), none, some (vj x8), none, some (vi x10), some (vi x11), none, none, none, none, none, none, none, none, some (vj x20), none, some (vj x22), none, some (vj x24), none, none, none, none, none], [vi x10], (Wd S L F G h))) (by decide) [0] rfl trivial ?_
  by_cases c2 : x10 = 0
  · rw [if_pos c2] at H
    obtain ⟨g3, H⟩ := H
    obtain ⟨g4, H⟩ := H
    obtain ⟨g5, H⟩ := H
    refine pt118 (s' := (531, [some (vr 0), some (vi x1), some (vi x2), some (vi x3), some (vi x4), some (vi 1), some (vj x6), none, some (vj x8), none, some (vi x10), some (vi x11), none, none, none, none, none, none, none, none, some (vj x20), none, some (vj x22), none, some (vj x24), none, none, none, none, none], [vi (y_cmp (x22 / x24) x6)], (Wd S L F G h))) (by decide) [0, 0, 0, 0, 0, 0] rfl ⟨⟨⟨trivial, ⟨g1, c2⟩⟩, g3⟩, (Or.inl ⟨g4, g5⟩)⟩ ?_
    by_cases c6 : (x22 / x24) = x6
    · rw [if_pos c6] at H
      obtain ⟨g7, H⟩ := H
      obtain ⟨g8, H⟩ := H
      obtain ⟨g9, H⟩ := H
      refine pt118 (s' := (542, [some (vr 0), some (vi x1), some (vi x2), some (vi x3), some (vi x4), some (vi 1), some (vj x6), none, some (vj x8), none, some (vi x10), some (vi x11), none, none, none, none, none, none, none, none, some (vj x20), none, some (vj x22), none, some (vj x24), none, none, none, none, none], [vi (y_cmp (x20 / x24) x8)], (Wd S L F G h))) (by decide) [0, 0, 0, 0, 0, 0] rfl ⟨⟨⟨trivial, ⟨y_cmp_r32, (y_cmp_eq.mpr c6)⟩⟩, g7⟩, (Or.inl ⟨g8, g9⟩)⟩ ?_
      by_cases c10 : (x20 / x24) = x8
      · rw [if_pos c10] at H
        refine pt118 (s' := (219, [some (vr 0), some (vi x1), some (vi x2), some (vi x3), some (vi x4), some (vi 1), some (vj x6), none, some (vj x8), none, some (vi 1), some (vi (x11 + 1)), none, none, none, none, none, none, none, none, some (vj x20), none, some (vj x22), none, some (vj x24), none, none, none, none, none], [], (Wd S L F G h))) (by decide) [0, 0, 0, 0, 0, 0] rfl ⟨trivial, ⟨y_cmp_r32, (y_cmp_eq.mpr c10)⟩⟩ ?_
        exact wp.weak (a := [some (vr 0), some (vi x1), some (vi x2), some (vi x3), some (vi x4), some (vi 1), some (vj x6), none, some (vj x8), none, some (vi 1), some (vi (x11 + 1)), none, none, none, none, none, none, none, none, none, none, none, none, none, none, none, none, none, none]) ⟨rfl, rfl, rfl, rfl, rfl, rfl, rfl, rfl, rfl, rfl, trivial⟩ H
      · rw [if_neg c10] at H
        refine pt118 (s' := (219, [some (vr 0), some (vi x1), some (vi x2), some (vi x3), some (vi x4), some (vi 1), some (vj x6), none, some (vj x8), none, some (vi 0), some (vi (x11 + 1)), none, none, none, none, none, none, none, none, some (vj x20), none, some (vj x22), none, some (vj x24), none, none, none, none, none], [], (Wd S L F G h))) (by decide) [1, 0, 0, 0, 0] rfl ⟨trivial, ⟨y_cmp_r32, (y_cmp_ne.mpr c10)⟩⟩ ?_
        exact wp.weak (a := [some (vr 0), some (vi x1), some (vi x2), some (vi x3), some (vi x4), some (vi 1), some (vj x6), none, some (vj x8), none, some (vi 0), some (vi (x11 + 1)), none, none, none, none, none, none, none, none, none, none, none, none, none, none, none, none, none, none]) ⟨rfl, rfl, rfl, rfl, rfl, rfl, rfl, rfl, rfl, rfl, trivial⟩ H
    · rw [if_neg c6] at H
      refine pt118 (s' := (219, [some (vr 0), some (vi x1), some (vi x2), some (vi x3), some (vi x4), some (vi 1), some (vj x6), none, some (vj x8), none, some (vi 0), some (vi (x11 + 1)), none, none, none, none, none, none, none, none, some (vj x20), none, some (vj x22), none, some (vj x24), none, none, none, none, none], [], (Wd S L F G h))) (by decide) [1, 0, 0, 0, 0] rfl ⟨trivial, ⟨y_cmp_r32, (y_cmp_ne.mpr c6)⟩⟩ ?_
      exact wp.weak (a := [some (vr 0), some (vi x1), some (vi x2), some (vi x3), some (vi x4), some (vi 1), some (vj x6), none, some (vj x8), none, some (vi 0), some (vi (x11 + 1)), none, none, none, none, none, none, none, none, none, none, none, none, none, none, none, none, none, none]) ⟨rfl, rfl, rfl, rfl, rfl, rfl, rfl, rfl, rfl, rfl, trivial⟩ H
  · rw [if_neg c2] at H
    refine pt118 (s' := (219, [some (vr 0), some (vi x1), some (vi x2), some (vi x3), some (vi x4), some (vi 1), some (vj x6), none, some (vj x8), none, some (vi 1), some (vi (x11 + 1)), none, none, none, none, none, none, none, none, some (vj x20), none, some (vj x22), none, some (vj x24), none, none, none, none, none], [], (Wd S L F G h))) (by decide) [1, 0, 0, 0, 0, 0] rfl ⟨trivial, ⟨g1, c2⟩⟩ ?_
    exact wp.weak (a := [some (vr 0), some (vi x1), some (vi x2), some (vi x3), some (vi x4), some (vi 1), some (vj x6), none, some (vj x8), none, some (vi 1), some (vi (x11 + 1)), none, none, none, none, none, none, none, none, none, none, none, none, none, none, none, none, none, none]) ⟨rfl, rfl, rfl, rfl, rfl, rfl, rfl, rfl, rfl, rfl, trivial⟩ H
set_option maxRecDepth 100000 in
set_option maxHeartbeats 4000000 in
theorem T118_623 {S L : Nat} {F G : Nat → Nat → Int} {h : Nat → Nat → Option Nat} (hh : RfH h) {x1 : Int} {x2 : Int} {x3 : Int} {x4 : Int} {x6 : Int} {x8 : Int} {x11 : Int} {x12 : Int}  {Q : Option V2 → W2 → Prop}
    (H : (R32 x11 ∧
 x11 = 0 ∧
 R32 x12 ∧
 (if x12 = (-4) then
  C118_646 x1 x2 x3 x4 x6 x8 x12 (Wd S L F G h) Q
 else
  (¬ (x12 < 0) ∧
  ¬ (3 < x12) ∧
  C118_646 x1 x2 x3 x4 x6 x8 x12 (Wd S L F G h) Q)))) : C118_623 x1 x2 x3 x4 x6 x8 x11 x12 (Wd S L F G h) Q := by
  obtain ⟨g1, H⟩ := H
  obtain ⟨g2, H⟩ := H
  obtain ⟨g3, H⟩ := H
  refine pt118 (s' := (632, [some (vr 0), some (vi x1), some (vi x2), some (vi x3), some (vi x4), none, some (vj x6), none, some (vj x8), none, none, some (vi x11), some (vi x12), none, none, none, none, none, none, none, none, none, none, none, none, none, none, none, none, none], [vi (-4), vi x12], (Wd S L F G h))) (by decide) [0, 0, 0, 0] rfl ⟨trivial, ⟨g1, g2⟩⟩ ?_
  by_cases c4 : x12 = (-4)
  · rw [if_pos c4] at H
    refine pt118 (s' := (646, [some (vr 0), some (vi x1), some (vi x2), some (vi x3), some (vi x4), none, some (vj x6), none, some (vj x8), none, none, some (vi x11), some (vi x12), none, none, none, none, none, none, none, none, none, none, none, none, none, none, none, none, none], [], (Wd S L F G h))) (by decide) [1] rfl ⟨trivial, ⟨⟨g3, (by decide : R32 (-4))⟩, c4⟩⟩ ?_
    exact wp.weak (a := [some (vr 0), some (vi x1), some (vi x2), some (vi x3), some (vi x4), none, some (vj x6), none, some (vj x8), none, none, none, some (vi x12), none, none, none, none, none, none, none, none, none, none, none, none, none, none, none, none, none]) ⟨rfl, rfl, rfl, rfl, rfl, rfl, rfl, rfl, trivial⟩ H
  · rw [if_neg c4] at H
    obtain ⟨g5, H⟩ := H
    obtain ⟨g6, H⟩ := H
    refine pt118 (s' := (646, [some (vr 0), some (vi x1), some (vi x2), some (vi x3), some (vi x4), none, some (vj x6), none, some (vj x8), none, none, some (vi x11), some (vi x12), none, none, none, none, none, none, none, none, none, none, none, none, none, none, none, none, none], [], (Wd S L F G h))) (by decide) [0, 0, 0, 0, 0, 0] rfl ⟨⟨⟨trivial, ⟨⟨g3, (by decide : R32 (-4))⟩, c4⟩⟩, ⟨g3, g5⟩⟩, ⟨⟨g3, (by decide : R32 3)⟩, g6⟩⟩ ?_
    exact wp.weak (a := [some (vr 0), some (vi x1), some (vi x2), some (vi x3), some (vi x4), none, some (vj x6), none, some (vj x8), none, none, none, some (vi x12), none, none, none, none, none, none, none, none, none, none, none, none, none, none, none, none, none]) ⟨rfl, rfl, rfl, rfl, rfl, rfl, rfl, rfl, trivial⟩ H
set_option maxRecDepth 100000 in
set_option maxHeartbeats 4000000 in
theorem T118_646 {S L : Nat} {F G : Nat → Nat → Int} {h : Nat → Nat → Option Nat} (hh : RfH h) {x1 : Int} {x2 : Int} {x3 : Int} {x4 : Int} {x6 : Int} {x8 : Int} {x12 : Int}  {Q : Option V2 → W2 → Prop}
    (H : C79_0 x1 13 (Wd S L F G h) (fun v w1 => ∃ (v1 : Int) (F2 : Nat → Nat → Int) (G3 : Nat → Nat → Int), v = some (vi v1) ∧ w1 = (Wd S L F2 G3 h) ∧
  (R32 v1 ∧
  v1 = (-1) ∧
  C79_0 2 0 (Wd S L F2 G3 h) (fun v w1 => ∃ (v6 : Int) (F7 : Nat → Nat → Int) (G8 : Nat → Nat → Int), v = some (vi v6) ∧ w1 = (Wd S L F7 G8 h) ∧
   (R32 v6 ∧
   v6 = (-1) ∧
   C78_0 2 0 (Wd S L F7 G8 h) (fun v w1 => ∃ (v11 : Int) (F12 : Nat → Nat → Int) (G13 : Nat → Nat → Int), v = some (vj v11) ∧ w1 = (Wd S L F12 G13 h) ∧
    (R64 v11 ∧
    v11 = (-1) ∧
    C77_0 x3 x1 0 (Wd S L F12 G13 h) (fun v w1 => ∃ (v16 : Int) (F17 : Nat → Nat → Int) (G18 : Nat → Nat → Int), v = some (vj v16) ∧ w1 = (Wd S L F17 G18 h) ∧
     (R64 v16 ∧
     v16 = (-1) ∧
     C76_0 x2 x1 0 (Wd S L F17 G18 h) (fun v w1 => ∃ (v21 : Int), v = some (vi v21) ∧ w1 = (Wd S L F17 G18 h) ∧
      (R32 v21 ∧
      v21 = (-1) ∧
      R32 x12 ∧
      (if x12 < 0 then
       Q (some (vi 1)) (Wd S L F17 G18 h)
      else
       (R32 x4 ∧
       (if x4 < x12 then
        Q (some (vi 1)) (Wd S L F17 G18 h)
       else
        (if x12 < x4 then
         Q (some (vi 1)) (Wd S L F17 G18 h)
        else
         (R64 x6 ∧
         R64 (3 * x8) ∧
         ¬ ((3 * x8) < x6) ∧
         Q (some (vi 1)) (Wd S L F17 G18 h))))))))))))))))) : C118_646 x1 x2 x3 x4 x6 x8 x12 (Wd S L F G h) Q := by
  refine pt118 (s' := (650, [some (vr 0), some (vi x1), some (vi x2), some (vi x3), some (vi x4), none, some (vj x6), none, some (vj x8), none, none, none, some (vi x12), none, none, none, none, none, none, none, none, none, none, none, none, none, none, none, none, none], [vi 13, vi x1, vr 0], (Wd S L F G h))) (by decide) [0, 0, 0] rfl trivial ?_
  refine wp.cl am_m118 rfl am_m79 11 [vr 0, vi x1, vi 13] [] rfl (Nat.le_of_ble_eq_true rfl) ⟨(Nat.le_of_ble_eq_true rfl), (Nat.le_of_ble_eq_true rfl)⟩ rfl (Nat.le_of_ble_eq_true rfl) rfl (Nat.le_of_ble_eq_true rfl) (Nat.le_of_ble_eq_true rfl) ⟨_, _, rfl, Nat.le_of_ble_eq_true rfl, rfl⟩ ?_
  refine wp.mono H ?_
  rintro v w1 ⟨v1, F2, G3, rfl, rfl, H⟩
  show wp 12 118 (653, [some (vr 0), some (vi x1), some (vi x2), some (vi x3), some (vi x4), none, some (vj x6), none, some (vj x8), none, none, none, some (vi x12), none, none, none, none, none, none, none, none, none, none, none, none, none, none, none, none, none], [vi v1], (Wd S L F2 G3 h)) _
  obtain ⟨g4, H⟩ := H
  obtain ⟨g5, H⟩ := H
  refine pt118 (s' := (660, [some (vr 0), some (vi x1), some (vi x2), some (vi x3), some (vi x4), none, some (vj x6), none, some (vj x8), none, none, none, some (vi x12), none, none, none, none, none, none, none, none, none, none, none, none, none, none, none, none, none], [vi 0, vi 2, vr 0], (Wd S L F2 G3 h))) (by decide) [0, 0, 0, 0, 0] rfl ⟨trivial, ⟨⟨g4, (by decide : R32 (-1))⟩, g5⟩⟩ ?_
  refine wp.cl am_m118 rfl am_m79 11 [vr 0, vi 2, vi 0] [] rfl (Nat.le_of_ble_eq_true rfl) ⟨(Nat.le_of_ble_eq_true rfl), (Nat.le_of_ble_eq_true rfl)⟩ rfl (Nat.le_of_ble_eq_true rfl) rfl (Nat.le_of_ble_eq_true rfl) (Nat.le_of_ble_eq_true rfl) ⟨_, _, rfl, Nat.le_of_ble_eq_true rfl, rfl⟩ ?_
  refine wp.mono H ?_
  rintro v w1 ⟨v6, F7, G8, rfl, rfl, H⟩
  show wp 12 118 (663, [some (vr 0), some (vi x1), some (vi x2), some (vi x3), some (vi x4), none, some (vj x6), none, some (vj x8), none, none, none, some (vi x12), none, none, none, none, none, none, none, none, none, none, none, none, none, none, none, none, none], [vi v6], (Wd S L F7 G8 h)) _
  obtain ⟨g9, H⟩ := H
  obtain ⟨g10, H⟩ := H
  refine pt118 (s' := (670, [some (vr 0), some (vi x1), some (vi x2), some (vi x3), some (vi x4), none, some (vj x6), none, some (vj x8), none, none, none, some (vi x12), none, none, none, none, none, none, none, none, none, none, none, none, none, none, none, none, none], [vi 0, vi 2, vr 0], (Wd S L F7 G8 h))) (by decide) [0, 0, 0, 0, 0] rfl ⟨trivial, ⟨⟨g9, (by decide : R32 (-1))⟩, g10⟩⟩ ?_
  refine wp.cl am_m118 rfl am_m78 11 [vr 0, vi 2, vi 0] [] rfl (Nat.le_of_ble_eq_true rfl) ⟨(Nat.le_of_ble_eq_true rfl), (Nat.le_of_ble_eq_true rfl)⟩ rfl (Nat.le_of_ble_eq_true rfl) rfl (Nat.le_of_ble_eq_true rfl) (Nat.le_of_ble_eq_true rfl) ⟨_, _, rfl, Nat.le_of_ble_eq_true rfl, rfl⟩ ?_
  refine wp.mono H ?_
  rintro v w1 ⟨v11, F12, G13, rfl, rfl, H⟩
  show wp 12 118 (673, [some (vr 0), some (vi x1), some (vi x2), some (vi x3), some (vi x4), none, some (vj x6), none, some (vj x8), none, none, none, some (vi x12), none, none, none, none, none, none, none, none, none, none, none, none, none, none, none, none, none], [vj v11], (Wd S L F12 G13 h)) _
  obtain ⟨g14, H⟩ := H
  obtain ⟨g15, H⟩ := H
  refine pt118 (s' := (684, [some (vr 0), some (vi x1), some (vi x2), some (vi x3), some (vi x4), none, some (vj x6), none, some (vj x8), none, none, none, some (vi x12), none, none, none, none, none, none, none, none, none, none, none, none, none, none, none, none, none], [vi 0, vi x1, vi x3, vr 0], (Wd S L F12 G13 h))) (by decide) [0, 0, 0, 0, 0, 0, 0] rfl ⟨⟨trivial, (Or.inl ⟨g14, (by decide : R64 (-1))⟩)⟩, ⟨y_cmp_r32, (y_cmp_eq.mpr g15)⟩⟩ ?_
  refine wp.cl am_m118 rfl am_m77 11 [vr 0, vi x3, vi x1, vi 0] [] rfl (Nat.le_of_ble_eq_true rfl) ⟨(Nat.le_of_ble_eq_true rfl), (Nat.le_of_ble_eq_true rfl)⟩ rfl (Nat.le_of_ble_eq_true rfl) rfl (Nat.le_of_ble_eq_true rfl) (Nat.le_of_ble_eq_true rfl) ⟨_, _, rfl, Nat.le_of_ble_eq_true rfl, rfl⟩ ?_
  refine wp.mono H ?_
  rintro v w1 ⟨v16, F17, G18, rfl, rfl, H⟩
  show wp 12 118 (687, [some (vr 0), some (vi x1), some (vi x2), some (vi x3), some (vi x4), none, some (vj x6), none, some (vj x8), none, none, none, some (vi x12), none, none, none, none, none, none, none, none, none, none, none, none, none, none, none, none, none], [vj v16], (Wd S L F17 G18 h)) _
  obtain ⟨g19, H⟩ := H
  obtain ⟨g20, H⟩ := H
  refine pt118 (s' := (698, [some (vr 0), some (vi x1), some (vi x2), some (vi x3), some (vi x4), none, some (vj x6), none, some (vj x8), none, none, none, some (vi x12), none, none, none, none, none, none, none, none, none, none, none, none, none, none, none, none, none], [vi 0, vi x1, vi x2, vr 0], (Wd S L F17 G18 h))) (by decide) [0, 0, 0, 0, 0, 0, 0] rfl ⟨⟨trivial, (Or.inl ⟨g19, (by decide : R64 (-1))⟩)⟩, ⟨y_cmp_r32, (y_cmp_eq.mpr g20)⟩⟩ ?_
  refine wp.cl am_m118 rfl am_m76 8 [vr 0, vi x2, vi x1, vi 0] [] rfl (Nat.le_of_ble_eq_true rfl) ⟨(Nat.le_of_ble_eq_true rfl), (Nat.le_of_ble_eq_true rfl)⟩ rfl (Nat.le_of_ble_eq_true rfl) rfl (Nat.le_of_ble_eq_true rfl) (Nat.le_of_ble_eq_true rfl) ⟨_, _, rfl, Nat.le_of_ble_eq_true rfl, rfl⟩ ?_
  refine wp.mono H ?_
  rintro v w1 ⟨v21, rfl, rfl, H⟩
  show wp 12 118 (701, [some (vr 0), some (vi x1), some (vi x2), some (vi x3), some (vi x4), none, some (vj x6), none, some (vj x8), none, none, none, some (vi x12), none, none, none, none, none, none, none, none, none, none, none, none, none, none, none, none, none], [vi v21], (Wd S L F17 G18 h)) _
  obtain ⟨g22, H⟩ := H
  obtain ⟨g23, H⟩ := H
  obtain ⟨g24, H⟩ := H
  refine pt118 (s' := (707, [some (vr 0), some (vi x1), some (vi x2), some (vi x3), some (vi x4), none, some (vj x6), none, some (vj x8), none, none, none, some (vi x12), none, none, none, none, none, none, none, none, none, none, none, none, none, none, none, none, none], [vi x12], (Wd S L F17 G18 h))) (by decide) [0, 0, 0] rfl ⟨trivial, ⟨⟨g22, (by decide : R32 (-1))⟩, g23⟩⟩ ?_
  by_cases c25 : x12 < 0
  · rw [if_pos c25] at H
    refine pt118 (s' := (741, [some (vr 0), some (vi x1), some (vi x2), some (vi x3), some (vi x4), none, some (vj x6), none, some (vj x8), none, none, none, some (vi x12), none, none, none, none, none, none, none, none, none, none, none, none, none, none, none, none, none], [vi 1], (Wd S L F17 G18 h))) (by decide) [1, 0, 0] rfl ⟨trivial, ⟨g24, c25⟩⟩ ?_
    exact wp.fin (v := some (vi 1)) (by decide) am_m118 rfl ⟨_, rfl, Or.inr ⟨rfl, Or.inr rfl⟩, rfl⟩ H
  · rw [if_neg c25] at H
    obtain ⟨g26, H⟩ := H
    refine pt118 (s' := (714, [some (vr 0), some (vi x1), some (vi x2), some (vi x3), some (vi x4), none, some (vj x6), none, some (vj x8), none, none, none, some (vi x12), none, none, none, none, none, none, none, none, none, none, none, none, none, none, none, none, none], [vi x4, vi x12], (Wd S L F17 G18 h))) (by decide) [0, 0, 0] rfl ⟨trivial, ⟨g24, c25⟩⟩ ?_
    by_cases c27 : x4 < x12
    · rw [if_pos c27] at H
      refine pt118 (s' := (741, [some (vr 0), some (vi x1), some (vi x2), some (vi x3), some (vi x4), none, some (vj x6), none, some (vj x8), none, none, none, some (vi x12), none, none, none, none, none, none, none, none, none, none, none, none, none, none, none, none, none], [vi 1], (Wd S L F17 G18 h))) (by decide) [1, 0, 0] rfl ⟨trivial, ⟨⟨g24, g26⟩, c27⟩⟩ ?_
      exact wp.fin (v := some (vi 1)) (by decide) am_m118 rfl ⟨_, rfl, Or.inr ⟨rfl, Or.inr rfl⟩, rfl⟩ H
    · rw [if_neg c27] at H
      refine pt118 (s' := (721, [some (vr 0), some (vi x1), some (vi x2), some (vi x3), some (vi x4), none, some (vj x6), none, some (vj x8), none, none, none, some (vi x12), none, none, none, none, none, none, none, none, none, none, none, none, none, none, none, none, none], [vi x4, vi x12], (Wd S L F17 G18 h))) (by decide) [0, 0, 0] rfl ⟨trivial, ⟨⟨g24, g26⟩, c27⟩⟩ ?_
      by_cases c28 : x12 < x4
      · rw [if_pos c28] at H
        refine pt118 (s' := (741, [some (vr 0), some (vi x1), some (vi x2), some (vi x3), some (vi x4), none, some (vj x6), none, some (vj x8), none, none, none, some (vi x12), none, none, none, none, none, none, none, none, none, none, none, none, none, none, none, none, none], [vi 1], (Wd S L F17 G18 h))) (by decide) [1, 0, 0] rfl ⟨trivial, ⟨⟨g24, g26⟩, c28⟩⟩ ?_
        exact wp.fin (v := some (vi 1)) (by decide) am_m118 rfl ⟨_, rfl, Or.inr ⟨rfl, Or.inr rfl⟩, rfl⟩ H
      · rw [if_neg c28] at H
        obtain ⟨g29, H⟩ := H
        obtain ⟨g30, H⟩ := H
        obtain ⟨g31, H⟩ := H
        refine pt118 (s' := (741, [some (vr 0), some (vi x1), some (vi x2), some (vi x3), some (vi x4), none, some (vj x6), none, some (vj x8), none, none, none, some (vi x12), none, none, none, none, none, none, none, none, none, none, none, none, none, none, none, none, none], [vi 1], (Wd S L F17 G18 h))) (by decide) [0, 0, 0, 0, 0, 0, 0, 0, 0] rfl ⟨⟨⟨trivial, ⟨⟨g24, g26⟩, c28⟩⟩, (Or.inl ⟨g29, g30⟩)⟩, ⟨y_cmp_r32, (fun e => g31 (y_cmp_gt.mp e))⟩⟩ ?_
        exact wp.fin (v := some (vi 1)) (by decide) am_m118 rfl ⟨_, rfl, Or.inr ⟨rfl, Or.inr rfl⟩, rfl⟩ H
set_option maxRecDepth 100000 in
set_option maxHeartbeats 4000000 in
theorem T119_0 {S L : Nat} {F G : Nat → Nat → Int} {h : Nat → Nat → Option Nat} (hh : RfH h)   {Q : Option V2 → W2 → Prop}
    (H : C75_0 9 (Wd S L F G h) (fun v w1 => ∃ (v1 : Int) (F2 : Nat → Nat → Int), v = some (vi v1) ∧ w1 = (Wd S L F2 G h) ∧
  C82_0 v1 0 (Wd S L F2 G h) (fun v w1 => ∃ (v3 : Int), v = some (vi v3) ∧ w1 = (Wd S L F2 G h) ∧
   (R32 v3 ∧
   v3 = (-1) ∧
   C82_0 (-1) 0 (Wd S L F2 G h) (fun v w1 => ∃ (v6 : Int), v = some (vi v6) ∧ w1 = (Wd S L F2 G h) ∧
    (R32 v6 ∧
    v6 = (-1) ∧
    C83_0 v1 0 (Wd S L F2 G h) (fun v w1 => ∃ (v9 : Int), v = some (vi v9) ∧ w1 = (Wd S L F2 G h) ∧
     (R32 v9 ∧
     v9 = (-1) ∧
     C84_0 2 (Wd S L F2 G h) (fun v w1 => ∃ (v12 : Int), v = some (vi v12) ∧ w1 = (Wd S L F2 G h) ∧
      (R32 v12 ∧
      v12 = (-1) ∧
      C119_60 v1 0 0 0 (Wd S L F2 G h) Q)))))))))) : C119_0  (Wd S L F G h) Q := by
  refine pt119 (s' := (3, [some (vr 0), none, none, none, none, none, none, none, none, none], [vi 9, vr 0], (Wd S L F G h))) (by decide) [0, 0] rfl trivial ?_
  refine wp.cl am_m119 rfl am_m75 11 [vr 0, vi 9] [] rfl (Nat.le_of_ble_eq_true rfl) ⟨(Nat.le_of_ble_eq_true rfl), (Nat.le_of_ble_eq_true rfl)⟩ rfl (Nat.le_of_ble_eq_true rfl) rfl (Nat.le_of_ble_eq_true rfl) (Nat.le_of_ble_eq_true rfl) ⟨_, _, rfl, Nat.le_of_ble_eq_true rfl, rfl⟩ ?_
  refine wp.mono H ?_
  rintro v w1 ⟨v1, F2, rfl, rfl, H⟩
  show wp 12 119 (6, [some (vr 0), none, none, none, none, none, none, none, none, none], [vi v1], (Wd S L F2 G h)) _
  refine pt119 (s' := (14, [some (vr 0), some (vi v1), some (vi 0), some (vi 0), none, none, none, none, none, none], [vi 0, vi v1, vr 0], (Wd S L F2 G h))) (by decide) [0, 0, 0, 0, 0, 0, 0, 0] rfl trivial ?_
  refine wp.cl am_m119 rfl am_m82 9 [vr 0, vi v1, vi 0] [] rfl (Nat.le_of_ble_eq_true rfl) ⟨(Nat.le_of_ble_eq_true rfl), (Nat.le_of_ble_eq_true rfl)⟩ rfl (Nat.le_of_ble_eq_true rfl) rfl (Nat.le_of_ble_eq_true rfl) (Nat.le_of_ble_eq_true rfl) ⟨_, _, rfl, Nat.le_of_ble_eq_true rfl, rfl⟩ ?_
  refine wp.mono H ?_
  rintro v w1 ⟨v3, rfl, rfl, H⟩
  show wp 12 119 (17, [some (vr 0), some (vi v1), some (vi 0), some (vi 0), none, none, none, none, none, none], [vi v3], (Wd S L F2 G h)) _
  obtain ⟨g4, H⟩ := H
  obtain ⟨g5, H⟩ := H
  refine pt119 (s' := (24, [some (vr 0), some (vi v1), some (vi 0), some (vi 0), none, none, none, none, none, none], [vi 0, vi (-1), vr 0], (Wd S L F2 G h))) (by decide) [0, 0, 0, 0, 0] rfl ⟨trivial, ⟨⟨g4, (by decide : R32 (-1))⟩, g5⟩⟩ ?_
  refine wp.cl am_m119 rfl am_m82 9 [vr 0, vi (-1), vi 0] [] rfl (Nat.le_of_ble_eq_true rfl) ⟨(Nat.le_of_ble_eq_true rfl), (Nat.le_of_ble_eq_true rfl)⟩ rfl (Nat.le_of_ble_eq_true rfl) rfl (Nat.le_of_ble_eq_true rfl) (Nat.le_of_ble_eq_true rfl) ⟨_, _, rfl, Nat.le_of_ble_eq_true rfl, rfl⟩ ?_
  refine wp.mono H ?_
  rintro v w1 ⟨v6, rfl, rfl, H⟩
  show wp 12 119 (27, [some (vr 0), some (vi v1), some (vi 0), some (vi 0), none, none, none, none, none, none], [vi v6], (Wd S L F2 G h)) _
  obtain ⟨g7, H⟩ := H
  obtain ⟨g8, H⟩ := H
  refine pt119 (s' := (34, [some (vr 0), some (vi v1), some (vi 0), some (vi 0), none, none, none, none, none, none], [vi 0, vi v1, vr 0], (Wd S L F2 G h))) (by decide) [0, 0, 0, 0, 0] rfl ⟨trivial, ⟨⟨g7, (by decide : R32 (-1))⟩, g8⟩⟩ ?_
  refine wp.cl am_m119 rfl am_m83 7 [vr 0, vi v1, vi 0] [] rfl (Nat.le_of_ble_eq_true rfl) ⟨(Nat.le_of_ble_eq_true rfl), (Nat.le_of_ble_eq_true rfl)⟩ rfl (Nat.le_of_ble_eq_true rfl) rfl (Nat.le_of_ble_eq_true rfl) (Nat.le_of_ble_eq_true rfl) ⟨_, _, rfl, Nat.le_of_ble_eq_true rfl, rfl⟩ ?_
  refine wp.mono H ?_
  rintro v w1 ⟨v9, rfl, rfl, H⟩
  show wp 12 119 (37, [some (vr 0), some (vi v1), some (vi 0), some (vi 0), none, none, none, none, none, none], [vi v9], (Wd S L F2 G h)) _
  obtain ⟨g10, H⟩ := H
  obtain ⟨g11, H⟩ := H
  refine pt119 (s' := (43, [some (vr 0), some (vi v1), some (vi 0), some (vi 0), none, none, none, none, none, none], [vi 2, vr 0], (Wd S L F2 G h))) (by decide) [0, 0, 0, 0] rfl ⟨trivial, ⟨⟨g10, (by decide : R32 (-1))⟩, g11⟩⟩ ?_
  refine wp.cl am_m119 rfl am_m84 10 [vr 0, vi 2] [] rfl (Nat.le_of_ble_eq_true rfl) ⟨(Nat.le_of_ble_eq_true rfl), (Nat.le_of_ble_eq_true rfl)⟩ rfl (Nat.le_of_ble_eq_true rfl) rfl (Nat.le_of_ble_eq_true rfl) (Nat.le_of_ble_eq_true rfl) ⟨_, _, rfl, Nat.le_of_ble_eq_true rfl, rfl⟩ ?_
  refine wp.mono H ?_
  rintro v w1 ⟨v12, rfl, rfl, H⟩
  show wp 12 119 (46, [some (vr 0), some (vi v1), some (vi 0), some (vi 0), none, none, none, none, none, none], [vi v12], (Wd S L F2 G h)) _
  obtain ⟨g13, H⟩ := H
  obtain ⟨g14, H⟩ := H
  refine pt119 (s' := (60, [some (vr 0), some (vi v1), some (vi 0), some (vi 0), some (vi 1), some (vi 0), none, none, none, none], [], (Wd S L F2 G h))) (by decide) [0, 0, 0, 0, 0, 0, 0] rfl ⟨trivial, ⟨⟨g13, (by decide : R32 (-1))⟩, g14⟩⟩ ?_
  exact wp.weak (a := [some (vr 0), some (vi v1), some (vi 0), some (vi 0), some (vi 1), some (vi 0), none, none, none, none]) ⟨rfl, rfl, rfl, rfl, rfl, rfl, trivial⟩ H
set_option maxRecDepth 100000 in
set_option maxHeartbeats 4000000 in
theorem T119_60 {S L : Nat} {F G : Nat → Nat → Int} {h : Nat → Nat → Option Nat} (hh : RfH h) {x1 : Int} {x2 : Int} {x3 : Int} {x5 : Int}  {Q : Option V2 → W2 → Prop}
    (H : (R32 x5 ∧
 R32 x1 ∧
 (if x1 ≤ x5 then
  (if x1 = 0 then
   C84_0 0 (Wd S L F G h) (fun v w1 => ∃ (v5 : Int), v = some (vi v5) ∧ w1 = (Wd S L F G h) ∧
    (R32 v5 ∧
    v5 = (-4) ∧
    Q (some (vi 1)) (Wd S L F G h)))
  else
   C84_0 0 (Wd S L F G h) (fun v w1 => ∃ (v8 : Int), v = some (vi v8) ∧ w1 = (Wd S L F G h) ∧
    C84_0 1 (Wd S L F G h) (fun v w1 => ∃ (v9 : Int), v = some (vi v9) ∧ w1 = (Wd S L F G h) ∧
     (R32 v8 ∧
     ¬ (v8 < 1) ∧
     R32 v9 ∧
     ¬ (v9 < v8) ∧
     C114_0 v8 v9 (Wd S L F G h) (fun v w1 => ∃ (v14 : Int), v = some (vj v14) ∧ w1 = (Wd S L F G h) ∧
      (R64 v14 ∧
      v14 = 1 ∧
      R32 (v8 * x3) ∧
      R32 (v9 * x2) ∧
      (v8 * x3) = (v9 * x2) ∧
      Q (some (vi 1)) (Wd S L F G h)))))))
 else
  C82_0 x5 4 (Wd S L F G h) (fun v w1 => ∃ (v20 : Int), v = some (vi v20) ∧ w1 = (Wd S L F G h) ∧
   C119_89 x1 x2 x3 x5 v20 0 0 0 (Wd S L F G h) Q)))) : C119_60 x1 x2 x3 x5 (Wd S L F G h) Q := by
  obtain ⟨g1, H⟩ := H
  obtain ⟨g2, H⟩ := H
  refine pt119 (s' := (63, [some (vr 0), some (vi x1), some (vi x2), some (vi x3), some (vi 1), some (vi x5), none, none, none, none], [vi x1, vi x5], (Wd S L F G h))) (by decide) [0, 0] rfl trivial ?_
  by_cases c3 : x1 ≤ x5
  · rw [if_pos c3] at H
    refine pt119 (s' := (293, [some (vr 0), some (vi x1), some (vi x2), some (vi x3), some (vi 1), some (vi x5), none, none, none, none], [vi x1], (Wd S L F G h))) (by decide) [1, 0] rfl ⟨trivial, ⟨⟨g1, g2⟩, c3⟩⟩ ?_
    by_cases c4 : x1 = 0
    · rw [if_pos c4] at H
      refine pt119 (s' := (303, [some (vr 0), some (vi x1), some (vi x2), some (vi x3), some (vi 1), some (vi x5), none, none, none, none], [vi 0, vr 0], (Wd S L F G h))) (by decide) [0, 0, 0, 0, 0] rfl ⟨⟨trivial, ⟨g2, c4⟩⟩, ⟨(by decide : R32 1), (by decide : ¬ (1 : Int) = (0 : Int))⟩⟩ ?_
      refine wp.cl am_m119 rfl am_m84 10 [vr 0, vi 0] [] rfl (Nat.le_of_ble_eq_true rfl) ⟨(Nat.le_of_ble_eq_true rfl), (Nat.le_of_ble_eq_true rfl)⟩ rfl (Nat.le_of_ble_eq_true rfl) rfl (Nat.le_of_ble_eq_true rfl) (Nat.le_of_ble_eq_true rfl) ⟨_, _, rfl, Nat.le_of_ble_eq_true rfl, rfl⟩ ?_
      refine wp.mono H ?_
      rintro v w1 ⟨v5, rfl, rfl, H⟩
      show wp 12 119 (306, [some (vr 0), some (vi x1), some (vi x2), some (vi x3), some (vi 1), some (vi x5), none, none, none, none], [vi v5], (Wd S L F G h)) _
      obtain ⟨g6, H⟩ := H
      obtain ⟨g7, H⟩ := H
      refine pt119 (s' := (316, [some (vr 0), some (vi x1), some (vi x2), some (vi x3), some (vi 1), some (vi x5), none, none, none, none], [vi 1], (Wd S L F G h))) (by decide) [0, 0, 0, 0] rfl ⟨trivial, ⟨⟨g6, (by decide : R32 (-4))⟩, g7⟩⟩ ?_
      exact wp.fin (v := some (vi 1)) (by decide) am_m119 rfl ⟨_, rfl, Or.inr ⟨rfl, Or.inr rfl⟩, rfl⟩ H
    · rw [if_neg c4] at H
      refine pt119 (s' := (319, [some (vr 0), some (vi x1), some (vi x2), some (vi x3), some (vi 1), some (vi x5), none, none, none, none], [vi 0, vr 0], (Wd S L F G h))) (by decide) [1, 0, 0] rfl ⟨trivial, ⟨g2, c4⟩⟩ ?_
      refine wp.cl am_m119 rfl am_m84 10 [vr 0, vi 0] [] rfl (Nat.le_of_ble_eq_true rfl) ⟨(Nat.le_of_ble_eq_true rfl), (Nat.le_of_ble_eq_true rfl)⟩ rfl (Nat.le_of_ble_eq_true rfl) rfl (Nat.le_of_ble_eq_true rfl) (Nat.le_of_ble_eq_true rfl) ⟨_, _, rfl, Nat.le_of_ble_eq_true rfl, rfl⟩ ?_
      refine wp.mono H ?_
      rintro v w1 ⟨v8, rfl, rfl, H⟩
      show wp 12 119 (322, [some (vr 0), some (vi x1), some (vi x2), some (vi x3), some (vi 1), some (vi x5), none, none, none, none], [vi v8], (Wd S L F G h)) _
      refine pt119 (s' := (326, [some (vr 0), some (vi x1), some (vi x2), some (vi x3), some (vi 1), some (vi v8), none, none, none, none], [vi 1, vr 0], (Wd S L F G h))) (by decide) [0, 0, 0] rfl trivial ?_
      refine wp.cl am_m119 rfl am_m84 10 [vr 0, vi 1] [] rfl (Nat.le_of_ble_eq_true rfl) ⟨(Nat.le_of_ble_eq_true rfl), (Nat.le_of_ble_eq_true rfl)⟩ rfl (Nat.le_of_ble_eq_true rfl) rfl (Nat.le_of_ble_eq_true rfl) (Nat.le_of_ble_eq_true rfl) ⟨_, _, rfl, Nat.le_of_ble_eq_true rfl, rfl⟩ ?_
      refine wp.mono H ?_
      rintro v w1 ⟨v9, rfl, rfl, H⟩
      show wp 12 119 (329, [some (vr 0), some (vi x1), some (vi x2), some (vi x3), some (vi 1), some (vi v8), none, none, none, none], [vi v9], (Wd S L F G h)) _
      obtain ⟨g10, H⟩ := H
      obtain ⟨g11, H⟩ := H
      obtain ⟨g12, H⟩ := H
      obtain ⟨g13, H⟩ := H
      refine pt119 (s' := (355, [some (vr 0), some (vi x1), some (vi x2), some (vi x3), some (vi 1), some (vi v8), some (vi v9), none, none, none], [vj v9, vj v8], (Wd S L F G h))) (by decide) [0, 0, 0, 0, 0, 0, 0, 0, 0, 0, 0, 0, 0] rfl ⟨⟨⟨⟨⟨trivial, ⟨(by decide : R32 1), (by decide : ¬ (1 : Int) = (0 : Int))⟩⟩, ⟨⟨g10, (by decide : R32 1)⟩, g11⟩⟩, ⟨⟨g10, g12⟩, g13⟩⟩, g10⟩, g12⟩ ?_
      refine wp.cl am_m119 rfl am_m114 6 [vj v8, vj v9] [] rfl (Nat.le_of_ble_eq_true rfl) ⟨(Nat.le_of_ble_eq_true rfl), (Nat.le_of_ble_eq_true rfl)⟩ rfl (Nat.le_of_ble_eq_true rfl) rfl (Nat.le_of_ble_eq_true rfl) (Nat.le_of_ble_eq_true rfl) trivial ?_
      refine wp.mono H ?_
      rintro v w1 ⟨v14, rfl, rfl, H⟩
      show wp 12 119 (358, [some (vr 0), some (vi x1), some (vi x2), some (vi x3), some (vi 1), some (vi v8), some (vi v9), none, none, none], [vj v14], (Wd S L F G h)) _
      obtain ⟨g15, H⟩ := H
      obtain ⟨g16, H⟩ := H
      obtain ⟨g17, H⟩ := H
      obtain ⟨g18, H⟩ := H
      obtain ⟨g19, H⟩ := H
      refine pt119 (s' := (379, [some (vr 0), some (vi x1), some (vi x2), some (vi x3), some (vi 1), some (vi v8), some (vi v9), none, none, none], [vi 1], (Wd S L F G h))) (by decide) [0, 0, 0, 0, 0, 0, 0, 0, 0, 0, 0, 0] rfl ⟨⟨⟨trivial, (Or.inl ⟨g15, (by decide : R64 1)⟩)⟩, ⟨y_cmp_r32, (y_cmp_eq.mpr g16)⟩⟩, ⟨⟨g17, g18⟩, g19⟩⟩ ?_
      exact wp.fin (v := some (vi 1)) (by decide) am_m119 rfl ⟨_, rfl, Or.inr ⟨rfl, Or.inr rfl⟩, rfl⟩ H
  · rw [if_neg c3] at H
    refine pt119 (s' := (75, [some (vr 0), some (vi x1), some (vi x2), some (vi x3), some (vi 1), some (vi x5), none, none, none, none], [vi 4, vi x5, vr 0], (Wd S L F G h))) (by decide) [0, 0, 0, 0, 0, 0] rfl ⟨⟨trivial, ⟨⟨g1, g2⟩, c3⟩⟩, ⟨(by decide : R32 1), (by decide : ¬ (1 : Int) = (0 : Int))⟩⟩ ?_
    refine wp.cl am_m119 rfl am_m82 9 [vr 0, vi x5, vi 4] [] rfl (Nat.le_of_ble_eq_true rfl) ⟨(Nat.le_of_ble_eq_true rfl), (Nat.le_of_ble_eq_true rfl)⟩ rfl (Nat.le_of_ble_eq_true rfl) rfl (Nat.le_of_ble_eq_true rfl) (Nat.le_of_ble_eq_true rfl) ⟨_, _, rfl, Nat.le_of_ble_eq_true rfl, rfl⟩ ?_
    refine wp.mono H ?_
    rintro v w1 ⟨v20, rfl, rfl, H⟩
    show wp 12 119 (78, [some (vr 0), some (vi x1), some (vi x2), some (vi x3), some (vi 1), some (vi x5), none, none, none, none], [vi v20], (Wd S L F G h)) _
    refine pt119 (s' := (89, [some (vr 0), some (vi x1), some (vi x2), some (vi x3), some (vi 1), some (vi x5), some (vi v20), some (vi 0), some (vi 0), some (vi 0)], [], (Wd S L F G h))) (by decide) [0, 0, 0, 0, 0, 0, 0] rfl trivial ?_
    exact wp.weak (a := [some (vr 0), some (vi x1), some (vi x2), some (vi x3), none, some (vi x5), some (vi v20), some (vi 0), some (vi 0), some (vi 0)]) ⟨rfl, rfl, rfl, rfl, rfl, rfl, rfl, rfl, rfl, trivial⟩ H
set_option maxRecDepth 100000 in
set_option maxHeartbeats 4000000 in
theorem T119_89 {S L : Nat} {F G : Nat → Nat → Int} {h : Nat → Nat → Option Nat} (hh : RfH h) {x1 : Int} {x2 : Int} {x3 : Int} {x5 : Int} {x6 : Int} {x7 : Int} {x8 : Int} {x9 : Int}  {Q : Option V2 → W2 → Prop}
    (H : (R32 x9 ∧
 R32 x1 ∧
 (if x1 ≤ x9 then
  (R32 x6 ∧
  ¬ (x6 < 0) ∧
  R32 x5 ∧
  ¬ (x5 < x6) ∧
  C82_0 x6 4 (Wd S L F G h) (fun v w1 => ∃ (v8 : Int), v = some (vi v8) ∧ w1 = (Wd S L F G h) ∧
   (R32 v8 ∧
   v8 = x6 ∧
   C82_0 x6 2 (Wd S L F G h) (fun v w1 => ∃ (v11 : Int), v = some (vi v11) ∧ w1 = (Wd S L F G h) ∧
    C82_0 x5 2 (Wd S L F G h) (fun v w1 => ∃ (v12 : Int), v = some (vi v12) ∧ w1 = (Wd S L F G h) ∧
     (R32 v11 ∧
     R32 v12 ∧
     v11 = v12 ∧
     C82_0 x5 3 (Wd S L F G h) (fun v w1 => ∃ (v16 : Int), v = some (vi v16) ∧ w1 = (Wd S L F G h) ∧
      (R32 v16 ∧
      R32 x7 ∧
      v16 = x7 ∧
      C82_0 x5 2 (Wd S L F G h) (fun v w1 => ∃ (v20 : Int), v = some (vi v20) ∧ w1 = (Wd S L F G h) ∧
       (R32 v20 ∧
       ¬ (v20 < 1) ∧
       C82_0 x5 2 (Wd S L F G h) (fun v w1 => ∃ (v23 : Int), v = some (vi v23) ∧ w1 = (Wd S L F G h) ∧
        C82_0 x5 1 (Wd S L F G h) (fun v w1 => ∃ (v24 : Int), v = some (vi v24) ∧ w1 = (Wd S L F G h) ∧
         (R32 v23 ∧
         R32 v24 ∧
         ¬ (v24 < v23) ∧
         C82_0 x5 5 (Wd S L F G h) (fun v w1 => ∃ (v28 : Int), v = some (vi v28) ∧ w1 = (Wd S L F G h) ∧
          (R32 v28 ∧
          v28 = (-1) ∧
          (if x6 = x5 then
           C82_0 x5 0 (Wd S L F G h) (fun v w1 => ∃ (v32 : Int), v = some (vi v32) ∧ w1 = (Wd S L F G h) ∧
            C119_60 x1 (x2 + x8) (x3 + v32) (x5 + 1) (Wd S L F G h) Q)
          else
           C82_0 x5 0 (Wd S L F G h) (fun v w1 => ∃ (v33 : Int), v = some (vi v33) ∧ w1 = (Wd S L F G h) ∧
            C119_60 x1 (x2 + 0) (x3 + v33) (x5 + 1) (Wd S L F G h) Q)))))))))))))))))
 else
  C82_0 x9 4 (Wd S L F G h) (fun v w1 => ∃ (v34 : Int), v = some (vi v34) ∧ w1 = (Wd S L F G h) ∧
   (R32 v34 ∧
   R32 x6 ∧
   (if v34 = x6 then
    C82_0 x9 4 (Wd S L F G h) (fun v w1 => ∃ (v38 : Int), v = some (vi v38) ∧ w1 = (Wd S L F G h) ∧
     (R32 v38 ∧
     (if v38 = x6 then
      C82_0 x9 0 (Wd S L F G h) (fun v w1 => ∃ (v41 : Int), v = some (vi v41) ∧ w1 = (Wd S L F G h) ∧
       (R32 v41 ∧
       R32 x8 ∧
       (if v41 ≤ x8 then
        C119_89 x1 x2 x3 x5 x6 (x7 + 1) x8 (x9 + 1) (Wd S L F G h) Q
       else
        C82_0 x9 0 (Wd S L F G h) (fun v w1 => ∃ (v45 : Int), v = some (vi v45) ∧ w1 = (Wd S L F G h) ∧
         C119_89 x1 x2 x3 x5 x6 (x7 + 1) v45 (x9 + 1) (Wd S L F G h) Q))))
     else
      C119_89 x1 x2 x3 x5 x6 (x7 + 1) x8 (x9 + 1) (Wd S L F G h) Q)))
   else
    C82_0 x9 4 (Wd S L F G h) (fun v w1 => ∃ (v46 : Int), v = some (vi v46) ∧ w1 = (Wd S L F G h) ∧
     (R32 v46 ∧
     (if v46 = x6 then
      C82_0 x9 0 (Wd S L F G h) (fun v w1 => ∃ (v49 : Int), v = some (vi v49) ∧ w1 = (Wd S L F G h) ∧
       (R32 v49 ∧
       R32 x8 ∧
       (if v49 ≤ x8 then
        C119_89 x1 x2 x3 x5 x6 (x7 + 0) x8 (x9 + 1) (Wd S L F G h) Q
       else
        C82_0 x9 0 (Wd S L F G h) (fun v w1 => ∃ (v53 : Int), v = some (vi v53) ∧ w1 = (Wd S L F G h) ∧
         C119_89 x1 x2 x3 x5 x6 (x7 + 0) v53 (x9 + 1) (Wd S L F G h) Q))))
     else
      C119_89 x1 x2 x3 x5 x6 (x7 + 0) x8 (x9 + 1) (Wd S L F G h) Q))))))))) : C119_89 x1 x2 x3 x5 x6 x7 x8 x9 (Wd S L F G h) Q := by
  obtain ⟨g1, H⟩ := H
  obtain ⟨g2, H⟩ := H
  refine pt119 (s' := (92, [some (vr 0), some (vi x1), some (vi x2), some (vi x3), none, some (vi x5), some (vi x6), some (vi x7), some (vi x8), some (vi x9)], [vi x1, vi x9], (Wd S L F G h))) (by decide) [0, 0] rfl trivial ?_
  by_cases c3 : x1 ≤ x9
  · rw [if_pos c3] at H
    obtain ⟨g4, H⟩ := H
    obtain ⟨g5, H⟩ := H
    obtain ⟨g6, H⟩ := H
    obtain ⟨g7, H⟩ := H
    refine pt119 (s' := (177, [some (vr 0), some (vi x1), some (vi x2), some (vi x3), none, some (vi x5), some (vi x6), some (vi x7), some (vi x8), some (vi x9)], [vi 4, vi x6, vr 0], (Wd S L F G h))) (by decide) [1, 0, 0, 0, 0, 0, 0, 0, 0] rfl ⟨⟨⟨trivial, ⟨⟨g1, g2⟩, c3⟩⟩, ⟨g4, g5⟩⟩, ⟨⟨g4, g6⟩, g7⟩⟩ ?_
    refine wp.cl am_m119 rfl am_m82 9 [vr 0, vi x6, vi 4] [] rfl (Nat.le_of_ble_eq_true rfl) ⟨(Nat.le_of_ble_eq_true rfl), (Nat.le_of_ble_eq_true rfl)⟩ rfl (Nat.le_of_ble_eq_true rfl) rfl (Nat.le_of_ble_eq_true rfl) (Nat.le_of_ble_eq_true rfl) ⟨_, _, rfl, Nat.le_of_ble_eq_true rfl, rfl⟩ ?_
    refine wp.mono H ?_
    rintro v w1 ⟨v8, rfl, rfl, H⟩
    show wp 12 119 (180, [some (vr 0), some (vi x1), some (vi x2), some (vi x3), none, some (vi x5), some (vi x6), some (vi x7), some (vi x8), some (vi x9)], [vi v8], (Wd S L F G h)) _
    obtain ⟨g9, H⟩ := H
    obtain ⟨g10, H⟩ := H
    refine pt119 (s' := (189, [some (vr 0), some (vi x1), some (vi x2), some (vi x3), none, some (vi x5), some (vi x6), some (vi x7), some (vi x8), some (vi x9)], [vi 2, vi x6, vr 0], (Wd S L F G h))) (by decide) [0, 0, 0, 0, 0] rfl ⟨trivial, ⟨⟨g9, g4⟩, g10⟩⟩ ?_
    refine wp.cl am_m119 rfl am_m82 9 [vr 0, vi x6, vi 2] [] rfl (Nat.le_of_ble_eq_true rfl) ⟨(Nat.le_of_ble_eq_true rfl), (Nat.le_of_ble_eq_true rfl)⟩ rfl (Nat.le_of_ble_eq_true rfl) rfl (Nat.le_of_ble_eq_true rfl) (Nat.le_of_ble_eq_true rfl) ⟨_, _, rfl, Nat.le_of_ble_eq_true rfl, rfl⟩ ?_
    refine wp.mono H ?_
    rintro v w1 ⟨v11, rfl, rfl, H⟩
    show wp 12 119 (192, [some (vr 0), some (vi x1), some (vi x2), some (vi x3), none, some (vi x5), some (vi x6), some (vi x7), some (vi x8), some (vi x9)], [vi v11], (Wd S L F G h)) _
    refine pt119 (s' := (196, [some (vr 0), some (vi x1), some (vi x2), some (vi x3), none, some (vi x5), some (vi x6), some (vi x7), some (vi x8), some (vi x9)], [vi 2, vi x5, vr 0, vi v11], (Wd S L F G h))) (by decide) [0, 0, 0] rfl trivial ?_
    refine wp.cl am_m119 rfl am_m82 9 [vr 0, vi x5, vi 2] [vi v11] rfl (Nat.le_of_ble_eq_true rfl) ⟨(Nat.le_of_ble_eq_true rfl), (Nat.le_of_ble_eq_true rfl)⟩ rfl (Nat.le_of_ble_eq_true rfl) rfl (Nat.le_of_ble_eq_true rfl) (Nat.le_of_ble_eq_true rfl) ⟨_, _, rfl, Nat.le_of_ble_eq_true rfl, rfl⟩ ?_
    refine wp.mono H ?_
    rintro v w1 ⟨v12, rfl, rfl, H⟩
    show wp 12 119 (199, [some (vr 0), some (vi x1), some (vi x2), some (vi x3), none, some (vi x5), some (vi x6), some (vi x7), some (vi x8), some (vi x9)], [vi v12, vi v11], (Wd S L F G h)) _
    obtain ⟨g13, H⟩ := H
    obtain ⟨g14, H⟩ := H
    obtain ⟨g15, H⟩ := H
    refine pt119 (s' := (206, [some (vr 0), some (vi x1), some (vi x2), some (vi x3), none, some (vi x5), some (vi x6), some (vi x7), some (vi x8), some (vi x9)], [vi 3, vi x5, vr 0], (Wd S L F G h))) (by decide) [0, 0, 0, 0] rfl ⟨trivial, ⟨⟨g13, g14⟩, g15⟩⟩ ?_
    refine wp.cl am_m119 rfl am_m82 9 [vr 0, vi x5, vi 3] [] rfl (Nat.le_of_ble_eq_true rfl) ⟨(Nat.le_of_ble_eq_true rfl), (Nat.le_of_ble_eq_true rfl)⟩ rfl (Nat.le_of_ble_eq_true rfl) rfl (Nat.le_of_ble_eq_true rfl) (Nat.le_of_ble_eq_true rfl) ⟨_, _, rfl, Nat.le_of_ble_eq_true rfl, rfl⟩ ?_
    refine wp.mono H ?_
    rintro v w1 ⟨v16, rfl, rfl, H⟩
    show wp 12 119 (209, [some (vr 0), some (vi x1), some (vi x2), some (vi x3), none, some (vi x5), some (vi x6), some (vi x7), some (vi x8), some (vi x9)], [vi v16], (Wd S L F G h)) _
    obtain ⟨g17, H⟩ := H
    obtain ⟨g18, H⟩ := H
    obtain ⟨g19, H⟩ := H
    refine pt119 (s' := (218, [some (vr 0), some (vi x1), some (vi x2), some (vi x3), none, some (vi x5), some (vi x6), some (vi x7), some (vi x8), some (vi x9)], [vi 2, vi x5, vr 0], (Wd S L F G h))) (by decide) [0, 0, 0, 0, 0] rfl ⟨trivial, ⟨⟨g17, g18⟩, g19⟩⟩ ?_
    refine wp.cl am_m119 rfl am_m82 9 [vr 0, vi x5, vi 2] [] rfl (Nat.le_of_ble_eq_true rfl) ⟨(Nat.le_of_ble_eq_true rfl), (Nat.le_of_ble_eq_true rfl)⟩ rfl (Nat.le_of_ble_eq_true rfl) rfl (Nat.le_of_ble_eq_true rfl) (Nat.le_of_ble_eq_true rfl) ⟨_, _, rfl, Nat.le_of_ble_eq_true rfl, rfl⟩ ?_
    refine wp.mono H ?_
    rintro v w1 ⟨v20, rfl, rfl, H⟩
    show wp 12 119 (221, [some (vr 0), some (vi x1), some (vi x2), some (vi x3), none, some (vi x5), some (vi x6), some (vi x7), some (vi x8), some (vi x9)], [vi v20], (Wd S L F G h)) _
    obtain ⟨g21, H⟩ := H
    obtain ⟨g22, H⟩ := H
    refine pt119 (s' := (229, [some (vr 0), some (vi x1), some (vi x2), some (vi x3), none, some (vi x5), some (vi x6), some (vi x7), some (vi x8), some (vi x9)], [vi 2, vi x5, vr 0], (Wd S L F G h))) (by decide) [0, 0, 0, 0, 0] rfl ⟨trivial, ⟨⟨g21, (by decide : R32 1)⟩, g22⟩⟩ ?_
    refine wp.cl am_m119 rfl am_m82 9 [vr 0, vi x5, vi 2] [] rfl (Nat.le_of_ble_eq_true rfl) ⟨(Nat.le_of_ble_eq_true rfl), (Nat.le_of_ble_eq_true rfl)⟩ rfl (Nat.le_of_ble_eq_true rfl) rfl (Nat.le_of_ble_eq_true rfl) (Nat.le_of_ble_eq_true rfl) ⟨_, _, rfl, Nat.le_of_ble_eq_true rfl, rfl⟩ ?_
    refine wp.mono H ?_
    rintro v w1 ⟨v23, rfl, rfl, H⟩
    show wp 12 119 (232, [some (vr 0), some (vi x1), some (vi x2), some (vi x3), none, some (vi x5), some (vi x6), some (vi x7), some (vi x8), some (vi x9)], [vi v23], (Wd S L F G h)) _
    refine pt119 (s' := (236, [some (vr 0), some (vi x1), some (vi x2), some (vi x3), none, some (vi x5), some (vi x6), some (vi x7), some (vi x8), some (vi x9)], [vi 1, vi x5, vr 0, vi v23], (Wd S L F G h))) (by decide) [0, 0, 0] rfl trivial ?_
    refine wp.cl am_m119 rfl am_m82 9 [vr 0, vi x5, vi 1] [vi v23] rfl (Nat.le_of_ble_eq_true rfl) ⟨(Nat.le_of_ble_eq_true rfl), (Nat.le_of_ble_eq_true rfl)⟩ rfl (Nat.le_of_ble_eq_true rfl) rfl (Nat.le_of_ble_eq_true rfl) (Nat.le_of_ble_eq_true rfl) ⟨_, _, rfl, Nat.le_of_ble_eq_true rfl, rfl⟩ ?_
    refine wp.mono H ?_
    rintro v w1 ⟨v24, rfl, rfl, H⟩
    show wp 12 119 (239, [some (vr 0), some (vi x1), some (vi x2), some (vi x3), none, some (vi x5), some (vi x6), some (vi x7), some (vi x8), some (vi x9)], [vi v24, vi v23], (Wd S L F G h)) _
    obtain ⟨g25, H⟩ := H
    obtain ⟨g26, H⟩ := H
    obtain ⟨g27, H⟩ := H
    refine pt119 (s' := (246, [some (vr 0), some (vi x1), some (vi x2), some (vi x3), none, some (vi x5), some (vi x6), some (vi x7), some (vi x8), some (vi x9)], [vi 5, vi x5, vr 0], (Wd S L F G h))) (by decide) [0, 0, 0, 0] rfl ⟨trivial, ⟨⟨g25, g26⟩, g27⟩⟩ ?_
    refine wp.cl am_m119 rfl am_m82 9 [vr 0, vi x5, vi 5] [] rfl (Nat.le_of_ble_eq_true rfl) ⟨(Nat.le_of_ble_eq_true rfl), (Nat.le_of_ble_eq_true rfl)⟩ rfl (Nat.le_of_ble_eq_true rfl) rfl (Nat.le_of_ble_eq_true rfl) (Nat.le_of_ble_eq_true rfl) ⟨_, _, rfl, Nat.le_of_ble_eq_true rfl, rfl⟩ ?_
    refine wp.mono H ?_
    rintro v w1 ⟨v28, rfl, rfl, H⟩
    show wp 12 119 (249, [some (vr 0), some (vi x1), some (vi x2), some (vi x3), none, some (vi x5), some (vi x6), some (vi x7), some (vi x8), some (vi x9)], [vi v28], (Wd S L F G h)) _
    obtain ⟨g29, H⟩ := H
    obtain ⟨g30, H⟩ := H
    refine pt119 (s' := (265, [some (vr 0), some (vi x1), some (vi x2), some (vi x3), some (vi 1), some (vi x5), some (vi x6), some (vi x7), some (vi x8), some (vi x9)], [vi x5, vi x6, vi x2], (Wd S L F G h))) (by decide) [0, 0, 0, 0, 0, 0, 0, 0] rfl ⟨trivial, ⟨⟨g29, (by decide : R32 (-1))⟩, g30⟩⟩ ?_
    by_cases c31 : x6 = x5
    · rw [if_pos c31] at H
      refine pt119 (s' := (281, [some (vr 0), some (vi x1), some (vi (x2 + x8)), some (vi x3), some (vi 1), some (vi x5), some (vi x6), some (vi x7), some (vi x8), some (vi x9)], [vi 0, vi x5, vr 0, vi x3], (Wd S L F G h))) (by decide) [0, 0, 0, 0, 0, 0, 0, 0, 0] rfl ⟨trivial, ⟨⟨g4, g6⟩, c31⟩⟩ ?_
      refine wp.cl am_m119 rfl am_m82 9 [vr 0, vi x5, vi 0] [vi x3] rfl (Nat.le_of_ble_eq_true rfl) ⟨(Nat.le_of_ble_eq_true rfl), (Nat.le_of_ble_eq_true rfl)⟩ rfl (Nat.le_of_ble_eq_true rfl) rfl (Nat.le_of_ble_eq_true rfl) (Nat.le_of_ble_eq_true rfl) ⟨_, _, rfl, Nat.le_of_ble_eq_true rfl, rfl⟩ ?_
      refine wp.mono H ?_
      rintro v w1 ⟨v32, rfl, rfl, H⟩
      show wp 12 119 (284, [some (vr 0), some (vi x1), some (vi (x2 + x8)), some (vi x3), some (vi 1), some (vi x5), some (vi x6), some (vi x7), some (vi x8), some (vi x9)], [vi v32, vi x3], (Wd S L F G h)) _
      refine pt119 (s' := (60, [some (vr 0), some (vi x1), some (vi (x2 + x8)), some (vi (x3 + v32)), some (vi 1), some (vi (x5 + 1)), some (vi x6), some (vi x7), some (vi x8), some (vi x9)], [], (Wd S L F G h))) (by decide) [0, 0, 0, 0] rfl trivial ?_
      exact wp.weak (a := [some (vr 0), some (vi x1), some (vi (x2 + x8)), some (vi (x3 + v32)), some (vi 1), some (vi (x5 + 1)), none, none, none, none]) ⟨rfl, rfl, rfl, rfl, rfl, rfl, trivial⟩ H
    · rw [if_neg c31] at H
      refine pt119 (s' := (281, [some (vr 0), some (vi x1), some (vi (x2 + 0)), some (vi x3), some (vi 1), some (vi x5), some (vi x6), some (vi x7), some (vi x8), some (vi x9)], [vi 0, vi x5, vr 0, vi x3], (Wd S L F G h))) (by decide) [1, 0, 0, 0, 0, 0, 0, 0] rfl ⟨trivial, ⟨⟨g4, g6⟩, c31⟩⟩ ?_
      refine wp.cl am_m119 rfl am_m82 9 [vr 0, vi x5, vi 0] [vi x3] rfl (Nat.le_of_ble_eq_true rfl) ⟨(Nat.le_of_ble_eq_true rfl), (Nat.le_of_ble_eq_true rfl)⟩ rfl (Nat.le_of_ble_eq_true rfl) rfl (Nat.le_of_ble_eq_true rfl) (Nat.le_of_ble_eq_true rfl) ⟨_, _, rfl, Nat.le_of_ble_eq_true rfl, rfl⟩ ?_
      refine wp.mono H ?_
      rintro v w1 ⟨v33, rfl, rfl, H⟩
      show wp 12 119 (284, [some (vr 0), some (vi x1), some (vi (x2 + 0)), some (vi x3), some (vi 1), some (vi x5), some (vi x6), some (vi x7), some (vi x8), some (vi x9)], [vi v33, vi x3], (Wd S L F G h)) _
      refine pt119 (s' := (60, [some (vr 0), some (vi x1), some (vi (x2 + 0)), some (vi (x3 + v33)), some (vi 1), some (vi (x5 + 1)), some (vi x6), some (vi x7), some (vi x8), some (vi x9)], [], (Wd S L F G h))) (by decide) [0, 0, 0, 0] rfl trivial ?_
      exact wp.weak (a := [some (vr 0), some (vi x1), some (vi (x2 + 0)), some (vi (x3 + v33)), some (vi 1), some (vi (x5 + 1)), none, none, none, none]) ⟨rfl, rfl, rfl, rfl, rfl, rfl, trivial⟩ H
  · rw [if_neg c3] at H
    refine pt119 (s' := (101, [some (vr 0), some (vi x1), some (vi x2), some (vi x3), none, some (vi x5), some (vi x6), some (vi x7), some (vi x8), some (vi x9)], [vi 4, vi x9, vr 0, vi x7], (Wd S L F G h))) (by decide) [0, 0, 0, 0, 0] rfl ⟨trivial, ⟨⟨g1, g2⟩, c3⟩⟩ ?_
    refine wp.cl am_m119 rfl am_m82 9 [vr 0, vi x9, vi 4] [vi x7] rfl (Nat.le_of_ble_eq_true rfl) ⟨(Nat.le_of_ble_eq_true rfl), (Nat.le_of_ble_eq_true rfl)⟩ rfl (Nat.le_of_ble_eq_true rfl) rfl (Nat.le_of_ble_eq_true rfl) (Nat.le_of_ble_eq_true rfl) ⟨_, _, rfl, Nat.le_of_ble_eq_true rfl, rfl⟩ ?_
    refine wp.mono H ?_
    rintro v w1 ⟨v34, rfl, rfl, H⟩
    show wp 12 119 (104, [some (vr 0), some (vi x1), some (vi x2), some (vi x3), none, some (vi x5), some (vi x6), some (vi x7), some (vi x8), some (vi x9)], [vi v34, vi x7], (Wd S L F G h)) _
    obtain ⟨g35, H⟩ := H
    obtain ⟨g36, H⟩ := H
    refine pt119 (s' := (106, [some (vr 0), some (vi x1), some (vi x2), some (vi x3), none, some (vi x5), some (vi x6), some (vi x7), some (vi x8), some (vi x9)], [vi x6, vi v34, vi x7], (Wd S L F G h))) (by decide) [0] rfl trivial ?_
    by_cases c37 : v34 = x6
    · rw [if_pos c37] at H
      refine pt119 (s' := (121, [some (vr 0), some (vi x1), some (vi x2), some (vi x3), none, some (vi x5), some (vi x6), some (vi (x7 + 1)), some (vi x8), some (vi x9)], [vi 4, vi x9, vr 0], (Wd S L F G h))) (by decide) [0, 0, 0, 0, 0, 0, 0, 0] rfl ⟨trivial, ⟨⟨g35, g36⟩, c37⟩⟩ ?_
      refine wp.cl am_m119 rfl am_m82 9 [vr 0, vi x9, vi 4] [] rfl (Nat.le_of_ble_eq_true rfl) ⟨(Nat.le_of_ble_eq_true rfl), (Nat.le_of_ble_eq_true rfl)⟩ rfl (Nat.le_of_ble_eq_true rfl) rfl (Nat.le_of_ble_eq_true rfl) (Nat.le_of_ble_eq_true rfl) ⟨_, _, rfl, Nat.le_of_ble_eq_true rfl, rfl⟩ ?_
      refine wp.mono H ?_
      rintro v w1 ⟨v38, rfl, rfl, H⟩
      show wp 12 119 (124, [some (vr 0), some (vi x1), some (vi x2), some (vi x3), none, some (vi x5), some (vi x6), some (vi (x7 + 1)), some (vi x8), some (vi x9)], [vi v38], (Wd S L F G h)) _
      obtain ⟨g39, H⟩ := H
      refine pt119 (s' := (126, [some (vr 0), some (vi x1), some (vi x2), some (vi x3), none, some (vi x5), some (vi x6), some (vi (x7 + 1)), some (vi x8), some (vi x9)], [vi x6, vi v38], (Wd S L F G h))) (by decide) [0] rfl trivial ?_
      by_cases c40 : v38 = x6
      · rw [if_pos c40] at H
        refine pt119 (s' := (133, [some (vr 0), some (vi x1), some (vi x2), some (vi x3), none, some (vi x5), some (vi x6), some (vi (x7 + 1)), some (vi x8), some (vi x9)], [vi 0, vi x9, vr 0], (Wd S L F G h))) (by decide) [0, 0, 0, 0] rfl ⟨trivial, ⟨⟨g39, g36⟩, c40⟩⟩ ?_
        refine wp.cl am_m119 rfl am_m82 9 [vr 0, vi x9, vi 0] [] rfl (Nat.le_of_ble_eq_true rfl) ⟨(Nat.le_of_ble_eq_true rfl), (Nat.le_of_ble_eq_true rfl)⟩ rfl (Nat.le_of_ble_eq_true rfl) rfl (Nat.le_of_ble_eq_true rfl) (Nat.le_of_ble_eq_true rfl) ⟨_, _, rfl, Nat.le_of_ble_eq_true rfl, rfl⟩ ?_
        refine wp.mono H ?_
        rintro v w1 ⟨v41, rfl, rfl, H⟩
        show wp 12 119 (136, [some (vr 0), some (vi x1), some (vi x2), some (vi x3), none, some (vi x5), some (vi x6), some (vi (x7 + 1)), some (vi x8), some (vi x9)], [vi v41], (Wd S L F G h)) _
        obtain ⟨g42, H⟩ := H
        obtain ⟨g43, H⟩ := H
        refine pt119 (s' := (138, [some (vr 0), some (vi x1), some (vi x2), some (vi x3), none, some (vi x5), some (vi x6), some (vi (x7 + 1)), some (vi x8), some (vi x9)], [vi x8, vi v41], (Wd S L F G h))) (by decide) [0] rfl trivial ?_
        by_cases c44 : v41 ≤ x8
        · rw [if_pos c44] at H
          refine pt119 (s' := (89, [some (vr 0), some (vi x1), some (vi x2), some (vi x3), none, some (vi x5), some (vi x6), some (vi (x7 + 1)), some (vi x8), some (vi (x9 + 1))], [], (Wd S L F G h))) (by decide) [1, 0, 0, 0, 0] rfl ⟨trivial, ⟨⟨g42, g43⟩, c44⟩⟩ ?_
          exact wp.weak (a := [some (vr 0), some (vi x1), some (vi x2), some (vi x3), none, some (vi x5), some (vi x6), some (vi (x7 + 1)), some (vi x8), some (vi (x9 + 1))]) ⟨rfl, rfl, rfl, rfl, rfl, rfl, rfl, rfl, rfl, trivial⟩ H
        · rw [if_neg c44] at H
          refine pt119 (s' := (145, [some (vr 0), some (vi x1), some (vi x2), some (vi x3), none, some (vi x5), some (vi x6), some (vi (x7 + 1)), some (vi x8), some (vi x9)], [vi 0, vi x9, vr 0], (Wd S L F G h))) (by decide) [0, 0, 0, 0] rfl ⟨trivial, ⟨⟨g42, g43⟩, c44⟩⟩ ?_
          refine wp.cl am_m119 rfl am_m82 9 [vr 0, vi x9, vi 0] [] rfl (Nat.le_of_ble_eq_true rfl) ⟨(Nat.le_of_ble_eq_true rfl), (Nat.le_of_ble_eq_true rfl)⟩ rfl (Nat.le_of_ble_eq_true rfl) rfl (Nat.le_of_ble_eq_true rfl) (Nat.le_of_ble_eq_true rfl) ⟨_, _, rfl, Nat.le_of_ble_eq_true rfl, rfl⟩ ?_
          refine wp.mono H ?_
          rintro v w1 ⟨v45, rfl, rfl, H⟩
          show wp 12 119 (148, [some (vr 0), some (vi x1), some (vi x2), some (vi x3), none, some (vi x5), some (vi x6), some (vi (x7 + 1)), some (vi x8), some (vi x9)], [vi v45], (Wd S L F G h)) _
          refine pt119 (s' := (89, [some (vr 0), some (vi x1), some (vi x2), some (vi x3), none, some (vi x5), some (vi x6), some (vi (x7 + 1)), some (vi v45), some (vi (x9 + 1))], [], (Wd S L F G h))) (by decide) [0, 0, 0, 0] rfl trivial ?_
          exact wp.weak (a := [some (vr 0), some (vi x1), some (vi x2), some (vi x3), none, some (vi x5), some (vi x6), some (vi (x7 + 1)), some (vi v45), some (vi (x9 + 1))]) ⟨rfl, rfl, rfl, rfl, rfl, rfl, rfl, rfl, rfl, trivial⟩ H
      · rw [if_neg c40] at H
        refine pt119 (s' := (89, [some (vr 0), some (vi x1), some (vi x2), some (vi x3), none, some (vi x5), some (vi x6), some (vi (x7 + 1)), some (vi x8), some (vi (x9 + 1))], [], (Wd S L F G h))) (by decide) [1, 0, 0, 0, 0] rfl ⟨trivial, ⟨⟨g39, g36⟩, c40⟩⟩ ?_
        exact wp.weak (a := [some (vr 0), some (vi x1), some (vi x2), some (vi x3), none, some (vi x5), some (vi x6), some (vi (x7 + 1)), some (vi x8), some (vi (x9 + 1))]) ⟨rfl, rfl, rfl, rfl, rfl, rfl, rfl, rfl, rfl, trivial⟩ H
    · rw [if_neg c37] at H
      refine pt119 (s' := (121, [some (vr 0), some (vi x1), some (vi x2), some (vi x3), none, some (vi x5), some (vi x6), some (vi (x7 + 0)), some (vi x8), some (vi x9)], [vi 4, vi x9, vr 0], (Wd S L F G h))) (by decide) [1, 0, 0, 0, 0, 0, 0] rfl ⟨trivial, ⟨⟨g35, g36⟩, c37⟩⟩ ?_
      refine wp.cl am_m119 rfl am_m82 9 [vr 0, vi x9, vi 4] [] rfl (Nat.le_of_ble_eq_true rfl) ⟨(Nat.le_of_ble_eq_true rfl), (Nat.le_of_ble_eq_true rfl)⟩ rfl (Nat.le_of_ble_eq_true rfl) rfl (Nat.le_of_ble_eq_true rfl) (Nat.le_of_ble_eq_true rfl) ⟨_, _, rfl, Nat.le_of_ble_eq_true rfl, rfl⟩ ?_
      refine wp.mono H ?_
      rintro v w1 ⟨v46, rfl, rfl, H⟩
      show wp 12 119 (124, [some (vr 0), some (vi x1), some (vi x2), some (vi x3), none, some (vi x5), some (vi x6), some (vi (x7 + 0)), some (vi x8), some (vi x9)], [vi v46], (Wd S L F G h)) _
      obtain ⟨g47, H⟩ := H
      refine pt119 (s' := (126, [some (vr 0), some (vi x1), some (vi x2), some (vi x3), none, some (vi x5), some (vi x6), some (vi (x7 + 0)), some (vi x8), some (vi x9)], [vi x6, vi v46], (Wd S L F G h))) (by decide) [0] rfl trivial ?_
      by_cases c48 : v46 = x6
      · rw [if_pos c48] at H
        refine pt119 (s' := (133, [some (vr 0), some (vi x1), some (vi x2), some (vi x3), none, some (vi x5), some (vi x6), some (vi (x7 + 0)), some (vi x8), some (vi x9)], [vi 0, vi x9, vr 0], (Wd S L F G h))) (by decide) [0, 0, 0, 0] rfl ⟨trivial, ⟨⟨g47, g36⟩, c48⟩⟩ ?_
        refine wp.cl am_m119 rfl am_m82 9 [vr 0, vi x9, vi 0] [] rfl (Nat.le_of_ble_eq_true rfl) ⟨(Nat.le_of_ble_eq_true rfl), (Nat.le_of_ble_eq_true rfl)⟩ rfl (Nat.le_of_ble_eq_true rfl) rfl (Nat.le_of_ble_eq_true rfl) (Nat.le_of_ble_eq_true rfl) ⟨_, _, rfl, Nat.le_of_ble_eq_true rfl, rfl⟩ ?_
        refine wp.mono H ?_
        rintro v w1 ⟨v49, rfl, rfl, H⟩
        show wp 12 119 (136, [some (vr 0), some (vi x1), some (vi x2), some (vi x3), none, some (vi x5), some (vi x6), some (vi (x7 + 0)), some (vi x8), some (vi x9)], [vi v49], (Wd S L F G h)) _
        obtain ⟨g50, H⟩ := H
        obtain ⟨g51, H⟩ := H
        refine pt119 (s' := (138, [some (vr 0), some (vi x1), some (vi x2), some (vi x3), none, some (vi x5), some (vi x6), some (vi (x7 + 0)), some (vi x8), some (vi x9)], [vi x8, vi v49], (Wd S L F G h))) (by decide) [0] rfl trivial ?_
        by_cases c52 : v49 ≤ x8
        · rw [if_pos c52] at H
          refine pt119 (s' := (89, [some (vr 0), some (vi x1), some (vi x2), some (vi x3), none, some (vi x5), some (vi x6), some (vi (x7 + 0)), some (vi x8), some (vi (x9 + 1))], [], (Wd S L F G h))) (by decide) [1, 0, 0, 0, 0] rfl ⟨trivial, ⟨⟨g50, g51⟩, c52⟩⟩ ?_
          exact wp.weak (a := [some (vr 0), some (vi x1), some (vi x2), some (vi x3), none, some (vi x5), some (vi x6), some (vi (x7 + 0)), some (vi x8), some (vi (x9 + 1))]) ⟨rfl, rfl, rfl, rfl, rfl, rfl, rfl, rfl, rfl, trivial⟩ H
        · rw [if_neg c52] at H
          refine pt119 (s' := (145, [some (vr 0), some (vi x1), some (vi x2), some (vi x3), none, some (vi x5), some (vi x6), some (vi (x7 + 0)), some (vi x8), some (vi x9)], [vi 0, vi x9, vr 0], (Wd S L F G h))) (by decide) [0, 0, 0, 0] rfl ⟨trivial, ⟨⟨g50, g51⟩, c52⟩⟩ ?_
          refine wp.cl am_m119 rfl am_m82 9 [vr 0, vi x9, vi 0] [] rfl (Nat.le_of_ble_eq_true rfl) ⟨(Nat.le_of_ble_eq_true rfl), (Nat.le_of_ble_eq_true rfl)⟩ rfl (Nat.le_of_ble_eq_true rfl) rfl (Nat.le_of_ble_eq_true rfl) (Nat.le_of_ble_eq_true rfl) ⟨_, _, rfl, Nat.le_of_ble_eq_true rfl, rfl⟩ ?_
          refine wp.mono H ?_
          rintro v w1 ⟨v53, rfl, rfl, H⟩
          show wp 12 119 (148, [some (vr 0), some (vi x1), some (vi x2), some (vi x3), none, some (vi x5), some (vi x6), some (vi (x7 + 0)), some (vi x8), some (vi x9)], [vi v53], (Wd S L F G h)) _
          refine pt119 (s' := (89, [some (vr 0), some (vi x1), some (vi x2), some (vi x3), none, some (vi x5), some (vi x6), some (vi (x7 + 0)), some (vi v53), some (vi (x9 + 1))], [], (Wd S L F G h))) (by decide) [0, 0, 0, 0] rfl trivial ?_
          exact wp.weak (a := [some (vr 0), some (vi x1), some (vi x2), some (vi x3), none, some (vi x5), some (vi x6), some (vi (x7 + 0)), some (vi v53), some (vi (x9 + 1))]) ⟨rfl, rfl, rfl, rfl, rfl, rfl, rfl, rfl, rfl, trivial⟩ H
      · rw [if_neg c48] at H
        refine pt119 (s' := (89, [some (vr 0), some (vi x1), some (vi x2), some (vi x3), none, some (vi x5), some (vi x6), some (vi (x7 + 0)), some (vi x8), some (vi (x9 + 1))], [], (Wd S L F G h))) (by decide) [1, 0, 0, 0, 0] rfl ⟨trivial, ⟨⟨g47, g36⟩, c48⟩⟩ ?_
        exact wp.weak (a := [some (vr 0), some (vi x1), some (vi x2), some (vi x3), none, some (vi x5), some (vi x6), some (vi (x7 + 0)), some (vi x8), some (vi (x9 + 1))]) ⟨rfl, rfl, rfl, rfl, rfl, rfl, rfl, rfl, rfl, trivial⟩ H
set_option maxRecDepth 100000 in
set_option maxHeartbeats 4000000 in
theorem T120_0 {S L : Nat} {F G : Nat → Nat → Int} {h : Nat → Nat → Option Nat} (hh : RfH h) {a1 : Int}  {Q : Option V2 → W2 → Prop}
    (H : (((0 : Int) ≤ a1 ∧ a1 ≤ 2147483647) ∧
 ((0 : Int) ≤ (a1 / 4) ∧ (a1 / 4) ≤ 2147483647) ∧
 C94_0 0 (a1 % 4) 14 (Wd S L F G h) (fun v w1 => ∃ (v3 : Int) (F4 : Nat → Nat → Int) (G5 : Nat → Nat → Int), v = some (vi v3) ∧ w1 = (Wd S L F4 G5 h) ∧
  (R32 v3 ∧
  v3 = 14 ∧
  C93_0 0 (a1 % 4) 1 (Wd S L F4 G5 h) (fun v w1 => ∃ (v8 : Int) (F9 : Nat → Nat → Int) (G10 : Nat → Nat → Int), v = some (vi v8) ∧ w1 = (Wd S L F9 G10 h) ∧
   C75_0 0 (Wd S L F9 G10 h) (fun v w1 => ∃ (v11 : Int) (F12 : Nat → Nat → Int), v = some (vi v11) ∧ w1 = (Wd S L F12 G10 h) ∧
    (R32 v8 ∧
    R32 v11 ∧
    v8 = v11 ∧
    C75_0 0 (Wd S L F12 G10 h) (fun v w1 => ∃ (v16 : Int) (F17 : Nat → Nat → Int), v = some (vi v16) ∧ w1 = (Wd S L F17 G10 h) ∧
     C93_0 0 (a1 % 4) (15 - v16) (Wd S L F17 G10 h) (fun v w1 => ∃ (v18 : Int) (F19 : Nat → Nat → Int) (G20 : Nat → Nat → Int), v = some (vi v18) ∧ w1 = (Wd S L F19 G20 h) ∧
      (R32 v18 ∧
      v18 = (-13) ∧
      C120_73 (a1 % 4) (1 + ((a1 / 4) % 6)) 0 0 (Wd S L F19 G20 h) Q)))))))))) : C120_0 a1 (Wd S L F G h) Q := by
  obtain ⟨g1, H⟩ := H
  obtain ⟨g2, H⟩ := H
  refine pt120 (s' := (18, [some (vr 0), some (vi a1), some (vi (a1 % 4)), some (vi (1 + ((a1 / 4) % 6))), none, none, none, none], [vi 14, vi (a1 % 4), vi 0, vr 0], (Wd S L F G h))) (by decide) [0, 0, 0, 0, 0, 0, 0, 0, 0, 0, 0, 0, 0, 0, 0, 0] rfl ⟨⟨⟨trivial, ⟨g1.1, g1.2, (by decide : (0 : Int) < 4), (by decide : (4 : Int) ≤ 2147483647)⟩⟩, ⟨g1.1, g1.2, (by decide : (0 : Int) < 4), (by decide : (4 : Int) ≤ 2147483647)⟩⟩, ⟨g2.1, g2.2, (by decide : (0 : Int) < 6), (by decide : (6 : Int) ≤ 2147483647)⟩⟩ ?_
  refine wp.cl am_m120 rfl am_m94 8 [vr 0, vi 0, vi (a1 % 4), vi 14] [] rfl (Nat.le_of_ble_eq_true rfl) ⟨(Nat.le_of_ble_eq_true rfl), (Nat.le_of_ble_eq_true rfl)⟩ rfl (Nat.le_of_ble_eq_true rfl) rfl (Nat.le_of_ble_eq_true rfl) (Nat.le_of_ble_eq_true rfl) ⟨_, _, rfl, Nat.le_of_ble_eq_true rfl, rfl⟩ ?_
  refine wp.mono H ?_
  rintro v w1 ⟨v3, F4, G5, rfl, rfl, H⟩
  show wp 12 120 (21, [some (vr 0), some (vi a1), some (vi (a1 % 4)), some (vi (1 + ((a1 / 4) % 6))), none, none, none, none], [vi v3], (Wd S L F4 G5 h)) _
  obtain ⟨g6, H⟩ := H
  obtain ⟨g7, H⟩ := H
  refine pt120 (s' := (30, [some (vr 0), some (vi a1), some (vi (a1 % 4)), some (vi (1 + ((a1 / 4) % 6))), none, none, none, none], [vi 1, vi (a1 % 4), vi 0, vr 0], (Wd S L F4 G5 h))) (by decide) [0, 0, 0, 0, 0, 0] rfl ⟨trivial, ⟨⟨g6, (by decide : R32 14)⟩, g7⟩⟩ ?_
  refine wp.cl am_m120 rfl am_m93 11 [vr 0, vi 0, vi (a1 % 4), vi 1] [] rfl (Nat.le_of_ble_eq_true rfl) ⟨(Nat.le_of_ble_eq_true rfl), (Nat.le_of_ble_eq_true rfl)⟩ rfl (Nat.le_of_ble_eq_true rfl) rfl (Nat.le_of_ble_eq_true rfl) (Nat.le_of_ble_eq_true rfl) ⟨_, _, rfl, Nat.le_of_ble_eq_true rfl, rfl⟩ ?_
  refine wp.mono H ?_
  rintro v w1 ⟨v8, F9, G10, rfl, rfl, H⟩
  show wp 12 120 (33, [some (vr 0), some (vi a1), some (vi (a1 % 4)), some (vi (1 + ((a1 / 4) % 6))), none, none, none, none], [vi v8], (Wd S L F9 G10 h)) _
  refine pt120 (s' := (35, [some (vr 0), some (vi a1), some (vi (a1 % 4)), some (vi (1 + ((a1 / 4) % 6))), none, none, none, none], [vi 0, vr 0, vi v8], (Wd S L F9 G10 h))) (by decide) [0, 0] rfl trivial ?_
  refine wp.cl am_m120 rfl am_m75 11 [vr 0, vi 0] [vi v8] rfl (Nat.le_of_ble_eq_true rfl) ⟨(Nat.le_of_ble_eq_true rfl), (Nat.le_of_ble_eq_true rfl)⟩ rfl (Nat.le_of_ble_eq_true rfl) rfl (Nat.le_of_ble_eq_true rfl) (Nat.le_of_ble_eq_true rfl) ⟨_, _, rfl, Nat.le_of_ble_eq_true rfl, rfl⟩ ?_
  refine wp.mono H ?_
  rintro v w1 ⟨v11, F12, rfl, rfl, H⟩
  show wp 12 120 (38, [some (vr 0), some (vi a1), some (vi (a1 % 4)), some (vi (1 + ((a1 / 4) % 6))), none, none, none, none], [vi v11, vi v8], (Wd S L F12 G10 h)) _
  obtain ⟨g13, H⟩ := H
  obtain ⟨g14, H⟩ := H
  obtain ⟨g15, H⟩ := H
  refine pt120 (s' := (48, [some (vr 0), some (vi a1), some (vi (a1 % 4)), some (vi (1 + ((a1 / 4) % 6))), none, none, none, none], [vi 0, vr 0, vi 15, vi (a1 % 4), vi 0, vr 0], (Wd S L F12 G10 h))) (by decide) [0, 0, 0, 0, 0, 0, 0] rfl ⟨trivial, ⟨⟨g13, g14⟩, g15⟩⟩ ?_
  refine wp.cl am_m120 rfl am_m75 11 [vr 0, vi 0] [vi 15, vi (a1 % 4), vi 0, vr 0] rfl (Nat.le_of_ble_eq_true rfl) ⟨(Nat.le_of_ble_eq_true rfl), (Nat.le_of_ble_eq_true rfl)⟩ rfl (Nat.le_of_ble_eq_true rfl) rfl (Nat.le_of_ble_eq_true rfl) (Nat.le_of_ble_eq_true rfl) ⟨_, _, rfl, Nat.le_of_ble_eq_true rfl, rfl⟩ ?_
  refine wp.mono H ?_
  rintro v w1 ⟨v16, F17, rfl, rfl, H⟩
  show wp 12 120 (51, [some (vr 0), some (vi a1), some (vi (a1 % 4)), some (vi (1 + ((a1 / 4) % 6))), none, none, none, none], [vi v16, vi 15, vi (a1 % 4), vi 0, vr 0], (Wd S L F17 G10 h)) _
  refine pt120 (s' := (52, [some (vr 0), some (vi a1), some (vi (a1 % 4)), some (vi (1 + ((a1 / 4) % 6))), none, none, none, none], [vi (15 - v16), vi (a1 % 4), vi 0, vr 0], (Wd S L F17 G10 h))) (by decide) [0] rfl trivial ?_
  refine wp.cl am_m120 rfl am_m93 11 [vr 0, vi 0, vi (a1 % 4), vi (15 - v16)] [] rfl (Nat.le_of_ble_eq_true rfl) ⟨(Nat.le_of_ble_eq_true rfl), (Nat.le_of_ble_eq_true rfl)⟩ rfl (Nat.le_of_ble_eq_true rfl) rfl (Nat.le_of_ble_eq_true rfl) (Nat.le_of_ble_eq_true rfl) ⟨_, _, rfl, Nat.le_of_ble_eq_true rfl, rfl⟩ ?_
  refine wp.mono H ?_
  rintro v w1 ⟨v18, F19, G20, rfl, rfl, H⟩
  show wp 12 120 (55, [some (vr 0), some (vi a1), some (vi (a1 % 4)), some (vi (1 + ((a1 / 4) % 6))), none, none, none, none], [vi v18], (Wd S L F19 G20 h)) _
  obtain ⟨g21, H⟩ := H
  obtain ⟨g22, H⟩ := H
  refine pt120 (s' := (73, [some (vr 0), some (vi a1), some (vi (a1 % 4)), some (vi (1 + ((a1 / 4) % 6))), some (vi 1), some (vi 0), some (vi 0), none], [], (Wd S L F19 G20 h))) (by decide) [0, 0, 0, 0, 0, 0, 0, 0, 0] rfl ⟨trivial, ⟨⟨g21, (by decide : R32 (-13))⟩, g22⟩⟩ ?_
  exact wp.weak (a := [some (vr 0), none, some (vi (a1 % 4)), some (vi (1 + ((a1 / 4) % 6))), some (vi 1), some (vi 0), some (vi 0), none]) ⟨rfl, rfl, rfl, rfl, rfl, rfl, trivial⟩ H
set_option maxRecDepth 100000 in
set_option maxHeartbeats 4000000 in
theorem T120_73 {S L : Nat} {F G : Nat → Nat → Int} {h : Nat → Nat → Option Nat} (hh : RfH h) {x2 : Int} {x3 : Int} {x5 : Int} {x6 : Int}  {Q : Option V2 → W2 → Prop}
    (H : C75_0 9 (Wd S L F G h) (fun v w1 => ∃ (v1 : Int) (F2 : Nat → Nat → Int), v = some (vi v1) ∧ w1 = (Wd S L F2 G h) ∧
  (R32 x6 ∧
  R32 v1 ∧
  (if v1 ≤ x6 then
   C75_0 9 (Wd S L F2 G h) (fun v w1 => ∃ (v6 : Int) (F7 : Nat → Nat → Int), v = some (vi v6) ∧ w1 = (Wd S L F7 G h) ∧
    (R32 x5 ∧
    R32 (((Int32.ofInt 1 <<< (Int32.ofInt v6 &&& 31)).toInt) - 1) ∧
    x5 = (((Int32.ofInt 1 <<< (Int32.ofInt v6 &&& 31)).toInt) - 1) ∧
    C96_0 0 x2 0 8 (Wd S L F7 G h) (fun v w1 => ∃ (v11 : Int) (G12 : Nat → Nat → Int), v = some (vi v11) ∧ w1 = (Wd S L F7 G12 h) ∧
     (R32 v11 ∧
     v11 = 1 ∧
     C92_0 0 x2 0 x3 (Wd S L F7 G12 h) (fun v w1 => ∃ (v15 : Int), v = some (vi v15) ∧ w1 = (Wd S L F7 G12 h) ∧
      (R32 v15 ∧
      v15 = (-2) ∧
      C92_0 0 x2 0 7 (Wd S L F7 G12 h) (fun v w1 => ∃ (v18 : Int), v = some (vi v18) ∧ w1 = (Wd S L F7 G12 h) ∧
       (R32 v18 ∧
       v18 = (-1) ∧
       C92_0 0 x2 9 6 (Wd S L F7 G12 h) (fun v w1 => ∃ (v21 : Int), v = some (vi v21) ∧ w1 = (Wd S L F7 G12 h) ∧
        (R32 v21 ∧
        v21 = (-13) ∧
        C95_0 0 (Wd S L F7 G12 h) (fun v w1 => ∃ (v24 : Int) (F25 : Nat → Nat → Int), v = some (vi v24) ∧ w1 = (Wd S L F25 G12 h) ∧
         (R32 v24 ∧
         v24 = 14 ∧
         Q (some (vi 1)) (Wd S L F25 G12 h)))))))))))))
  else
   C120_92 x2 x3 x5 x6 0 (Wd S L F2 G h) Q)))) : C120_73 x2 x3 x5 x6 (Wd S L F G h) Q := by
  refine pt120 (s' := (78, [some (vr 0), none, some (vi x2), some (vi x3), some (vi 1), some (vi x5), some (vi x6), none], [vi 9, vr 0, vi x6], (Wd S L F G h))) (by decide) [0, 0, 0] rfl trivial ?_
  refine wp.cl am_m120 rfl am_m75 11 [vr 0, vi 9] [vi x6] rfl (Nat.le_of_ble_eq_true rfl) ⟨(Nat.le_of_ble_eq_true rfl), (Nat.le_of_ble_eq_true rfl)⟩ rfl (Nat.le_of_ble_eq_true rfl) rfl (Nat.le_of_ble_eq_true rfl) (Nat.le_of_ble_eq_true rfl) ⟨_, _, rfl, Nat.le_of_ble_eq_true rfl, rfl⟩ ?_
  refine wp.mono H ?_
  rintro v w1 ⟨v1, F2, rfl, rfl, H⟩
  show wp 12 120 (81, [some (vr 0), none, some (vi x2), some (vi x3), some (vi 1), some (vi x5), some (vi x6), none], [vi v1, vi x6], (Wd S L F2 G h)) _
  obtain ⟨g3, H⟩ := H
  obtain ⟨g4, H⟩ := H
  by_cases c5 : v1 ≤ x6
  · rw [if_pos c5] at H
    refine pt120 (s' := (252, [some (vr 0), none, some (vi x2), some (vi x3), some (vi 1), some (vi x5), some (vi x6), none], [vi 9, vr 0, vi 1, vi x5], (Wd S L F2 G h))) (by decide) [1, 0, 0, 0, 0, 0, 0] rfl ⟨⟨trivial, ⟨⟨g3, g4⟩, c5⟩⟩, ⟨(by decide : R32 1), (by decide : ¬ (1 : Int) = (0 : Int))⟩⟩ ?_
    refine wp.cl am_m120 rfl am_m75 11 [vr 0, vi 9] [vi 1, vi x5] rfl (Nat.le_of_ble_eq_true rfl) ⟨(Nat.le_of_ble_eq_true rfl), (Nat.le_of_ble_eq_true rfl)⟩ rfl (Nat.le_of_ble_eq_true rfl) rfl (Nat.le_of_ble_eq_true rfl) (Nat.le_of_ble_eq_true rfl) ⟨_, _, rfl, Nat.le_of_ble_eq_true rfl, rfl⟩ ?_
    refine wp.mono H ?_
    rintro v w1 ⟨v6, F7, rfl, rfl, H⟩
    show wp 12 120 (255, [some (vr 0), none, some (vi x2), some (vi x3), some (vi 1), some (vi x5), some (vi x6), none], [vi v6, vi 1, vi x5], (Wd S L F7 G h)) _
    obtain ⟨g8, H⟩ := H
    obtain ⟨g9, H⟩ := H
    obtain ⟨g10, H⟩ := H
    refine pt120 (s' := (268, [some (vr 0), none, some (vi x2), some (vi x3), some (vi 1), some (vi x5), some (vi x6), none], [vj 8, vi 0, vi x2, vi 0, vr 0], (Wd S L F7 G h))) (by decide) [0, 0, 0, 0, 0, 0, 0, 0, 0] rfl ⟨trivial, ⟨⟨g8, g9⟩, g10⟩⟩ ?_
    refine wp.cl am_m120 rfl am_m96 9 [vr 0, vi 0, vi x2, vi 0, vj 8] [] rfl (Nat.le_of_ble_eq_true rfl) ⟨(Nat.le_of_ble_eq_true rfl), (Nat.le_of_ble_eq_true rfl)⟩ rfl (Nat.le_of_ble_eq_true rfl) rfl (Nat.le_of_ble_eq_true rfl) (Nat.le_of_ble_eq_true rfl) ⟨_, _, rfl, Nat.le_of_ble_eq_true rfl, rfl⟩ ?_
    refine wp.mono H ?_
    rintro v w1 ⟨v11, G12, rfl, rfl, H⟩
    show wp 12 120 (271, [some (vr 0), none, some (vi x2), some (vi x3), some (vi 1), some (vi x5), some (vi x6), none], [vi v11], (Wd S L F7 G12 h)) _
    obtain ⟨g13, H⟩ := H
    obtain ⟨g14, H⟩ := H
    refine pt120 (s' := (280, [some (vr 0), none, some (vi x2), some (vi x3), some (vi 1), some (vi x5), some (vi x6), none], [vi x3, vi 0, vi x2, vi 0, vr 0], (Wd S L F7 G12 h))) (by decide) [0, 0, 0, 0, 0, 0, 0] rfl ⟨trivial, ⟨⟨g13, (by decide : R32 1)⟩, g14⟩⟩ ?_
    refine wp.cl am_m120 rfl am_m92 9 [vr 0, vi 0, vi x2, vi 0, vi x3] [] rfl (Nat.le_of_ble_eq_true rfl) ⟨(Nat.le_of_ble_eq_true rfl), (Nat.le_of_ble_eq_true rfl)⟩ rfl (Nat.le_of_ble_eq_true rfl) rfl (Nat.le_of_ble_eq_true rfl) (Nat.le_of_ble_eq_true rfl) ⟨_, _, rfl, Nat.le_of_ble_eq_true rfl, rfl⟩ ?_
    refine wp.mono H ?_
    rintro v w1 ⟨v15, rfl, rfl, H⟩
    show wp 12 120 (283, [some (vr 0), none, some (vi x2), some (vi x3), some (vi 1), some (vi x5), some (vi x6), none], [vi v15], (Wd S L F7 G12 h)) _
    obtain ⟨g16, H⟩ := H
    obtain ⟨g17, H⟩ := H
    refine pt120 (s' := (294, [some (vr 0), none, some (vi x2), some (vi x3), some (vi 1), some (vi x5), some (vi x6), none], [vi 7, vi 0, vi x2, vi 0, vr 0], (Wd S L F7 G12 h))) (by decide) [0, 0, 0, 0, 0, 0, 0] rfl ⟨trivial, ⟨⟨g16, (by decide : R32 (-2))⟩, g17⟩⟩ ?_
    refine wp.cl am_m120 rfl am_m92 9 [vr 0, vi 0, vi x2, vi 0, vi 7] [] rfl (Nat.le_of_ble_eq_true rfl) ⟨(Nat.le_of_ble_eq_true rfl), (Nat.le_of_ble_eq_true rfl)⟩ rfl (Nat.le_of_ble_eq_true rfl) rfl (Nat.le_of_ble_eq_true rfl) (Nat.le_of_ble_eq_true rfl) ⟨_, _, rfl, Nat.le_of_ble_eq_true rfl, rfl⟩ ?_
    refine wp.mono H ?_
    rintro v w1 ⟨v18, rfl, rfl, H⟩
    show wp 12 120 (297, [some (vr 0), none, some (vi x2), some (vi x3), some (vi 1), some (vi x5), some (vi x6), none], [vi v18], (Wd S L F7 G12 h)) _
    obtain ⟨g19, H⟩ := H
    obtain ⟨g20, H⟩ := H
    refine pt120 (s' := (308, [some (vr 0), none, some (vi x2), some (vi x3), some (vi 1), some (vi x5), some (vi x6), none], [vi 6, vi 9, vi x2, vi 0, vr 0], (Wd S L F7 G12 h))) (by decide) [0, 0, 0, 0, 0, 0, 0] rfl ⟨trivial, ⟨⟨g19, (by decide : R32 (-1))⟩, g20⟩⟩ ?_
    refine wp.cl am_m120 rfl am_m92 9 [vr 0, vi 0, vi x2, vi 9, vi 6] [] rfl (Nat.le_of_ble_eq_true rfl) ⟨(Nat.le_of_ble_eq_true rfl), (Nat.le_of_ble_eq_true rfl)⟩ rfl (Nat.le_of_ble_eq_true rfl) rfl (Nat.le_of_ble_eq_true rfl) (Nat.le_of_ble_eq_true rfl) ⟨_, _, rfl, Nat.le_of_ble_eq_true rfl, rfl⟩ ?_
    refine wp.mono H ?_
    rintro v w1 ⟨v21, rfl, rfl, H⟩
    show wp 12 120 (311, [some (vr 0), none, some (vi x2), some (vi x3), some (vi 1), some (vi x5), some (vi x6), none], [vi v21], (Wd S L F7 G12 h)) _
    obtain ⟨g22, H⟩ := H
    obtain ⟨g23, H⟩ := H
    refine pt120 (s' := (318, [some (vr 0), none, some (vi x2), some (vi x3), some (vi 1), some (vi x5), some (vi x6), none], [vi 0, vr 0], (Wd S L F7 G12 h))) (by decide) [0, 0, 0, 0] rfl ⟨trivial, ⟨⟨g22, (by decide : R32 (-13))⟩, g23⟩⟩ ?_
    refine wp.cl am_m120 rfl am_m95 8 [vr 0, vi 0] [] rfl (Nat.le_of_ble_eq_true rfl) ⟨(Nat.le_of_ble_eq_true rfl), (Nat.le_of_ble_eq_true rfl)⟩ rfl (Nat.le_of_ble_eq_true rfl) rfl (Nat.le_of_ble_eq_true rfl) (Nat.le_of_ble_eq_true rfl) ⟨_, _, rfl, Nat.le_of_ble_eq_true rfl, rfl⟩ ?_
    refine wp.mono H ?_
    rintro v w1 ⟨v24, F25, rfl, rfl, H⟩
    show wp 12 120 (321, [some (vr 0), none, some (vi x2), some (vi x3), some (vi 1), some (vi x5), some (vi x6), none], [vi v24], (Wd S L F25 G12 h)) _
    obtain ⟨g26, H⟩ := H
    obtain ⟨g27, H⟩ := H
    refine pt120 (s' := (331, [some (vr 0), none, some (vi x2), some (vi x3), some (vi 1), some (vi x5), some (vi x6), none], [vi 1], (Wd S L F25 G12 h))) (by decide) [0, 0, 0, 0] rfl ⟨trivial, ⟨⟨g26, (by decide : R32 14)⟩, g27⟩⟩ ?_
    exact wp.fin (v := some (vi 1)) (by decide) am_m120 rfl ⟨_, rfl, Or.inr ⟨rfl, Or.inr rfl⟩, rfl⟩ H
  · rw [if_neg c5] at H
    refine pt120 (s' := (92, [some (vr 0), none, some (vi x2), some (vi x3), some (vi 1), some (vi x5), some (vi x6), some (vi 0)], [], (Wd S L F2 G h))) (by decide) [0, 0, 0, 0, 0] rfl ⟨⟨trivial, ⟨⟨g3, g4⟩, c5⟩⟩, ⟨(by decide : R32 1), (by decide : ¬ (1 : Int) = (0 : Int))⟩⟩ ?_
    exact wp.weak (a := [some (vr 0), none, some (vi x2), some (vi x3), some (vi 1), some (vi x5), some (vi x6), some (vi 0)]) ⟨rfl, rfl, rfl, rfl, rfl, rfl, rfl, trivial⟩ H
set_option maxRecDepth 100000 in
set_option maxHeartbeats 4000000 in
theorem T120_92 {S L : Nat} {F G : Nat → Nat → Int} {h : Nat → Nat → Option Nat} (hh : RfH h) {x2 : Int} {x3 : Int} {x5 : Int} {x6 : Int} {x7 : Int}  {Q : Option V2 → W2 → Prop}
    (H : C82_0 x6 1 (Wd S L F G h) (fun v w1 => ∃ (v1 : Int), v = some (vi v1) ∧ w1 = (Wd S L F G h) ∧
  (R32 x7 ∧
  R32 v1 ∧
  (if v1 ≤ x7 then
   C82_0 x6 1 (Wd S L F G h) (fun v w1 => ∃ (v5 : Int), v = some (vi v5) ∧ w1 = (Wd S L F G h) ∧
    C92_0 0 x2 0 v5 (Wd S L F G h) (fun v w1 => ∃ (v6 : Int), v = some (vi v6) ∧ w1 = (Wd S L F G h) ∧
     (R32 ((Int32.ofInt ((Int32.ofInt v6 >>> (Int32.ofInt x6 &&& 31)).toInt) &&& Int32.ofInt 1).toInt) ∧
     ((Int32.ofInt ((Int32.ofInt v6 >>> (Int32.ofInt x6 &&& 31)).toInt) &&& Int32.ofInt 1).toInt) = 1 ∧
     C113_0 v6 (Wd S L F G h) (fun v w1 => ∃ (v9 : Int), v = some (vi v9) ∧ w1 = (Wd S L F G h) ∧
      C82_0 x6 3 (Wd S L F G h) (fun v w1 => ∃ (v10 : Int), v = some (vi v10) ∧ w1 = (Wd S L F G h) ∧
       (R32 v9 ∧
       R32 v10 ∧
       v9 = v10 ∧
       C82_0 x6 4 (Wd S L F G h) (fun v w1 => ∃ (v14 : Int), v = some (vi v14) ∧ w1 = (Wd S L F G h) ∧
        (R32 ((Int32.ofInt v6 &&& Int32.ofInt (((Int32.ofInt 1 <<< (Int32.ofInt v14 &&& 31)).toInt) - 1)).toInt) ∧
        ((Int32.ofInt v6 &&& Int32.ofInt (((Int32.ofInt 1 <<< (Int32.ofInt v14 &&& 31)).toInt) - 1)).toInt) = 0 ∧
        C120_73 x2 x3 ((Int32.ofInt x5 ||| Int32.ofInt v6).toInt) (x6 + 1) (Wd S L F G h) Q))))))))
  else
   C83_0 x6 x7 (Wd S L F G h) (fun v w1 => ∃ (v17 : Int), v = some (vi v17) ∧ w1 = (Wd S L F G h) ∧
    C72_0 v17 0 (Wd S L F G h) (fun v w1 => ∃ (v18 : Int), v = some (vi v18) ∧ w1 = (Wd S L F G h) ∧
     (R32 v18 ∧
     C96_0 0 x2 x7 v18 (Wd S L F G h) (fun v w1 => ∃ (v20 : Int) (G21 : Nat → Nat → Int), v = some (vi v20) ∧ w1 = (Wd S L F G21 h) ∧
      (R32 v20 ∧
      v20 = 1 ∧
      C120_92 x2 x3 x5 x6 (x7 + 1) (Wd S L F G21 h) Q))))))))) : C120_92 x2 x3 x5 x6 x7 (Wd S L F G h) Q := by
  refine pt120 (s' := (98, [some (vr 0), none, some (vi x2), some (vi x3), some (vi 1), some (vi x5), some (vi x6), some (vi x7)], [vi 1, vi x6, vr 0, vi x7], (Wd S L F G h))) (by decide) [0, 0, 0, 0] rfl trivial ?_
  refine wp.cl am_m120 rfl am_m82 9 [vr 0, vi x6, vi 1] [vi x7] rfl (Nat.le_of_ble_eq_true rfl) ⟨(Nat.le_of_ble_eq_true rfl), (Nat.le_of_ble_eq_true rfl)⟩ rfl (Nat.le_of_ble_eq_true rfl) rfl (Nat.le_of_ble_eq_true rfl) (Nat.le_of_ble_eq_true rfl) ⟨_, _, rfl, Nat.le_of_ble_eq_true rfl, rfl⟩ ?_
  refine wp.mono H ?_
  rintro v w1 ⟨v1, rfl, rfl, H⟩
  show wp 12 120 (101, [some (vr 0), none, some (vi x2), some (vi x3), some (vi 1), some (vi x5), some (vi x6), some (vi x7)], [vi v1, vi x7], (Wd S L F G h)) _
  obtain ⟨g2, H⟩ := H
  obtain ⟨g3, H⟩ := H
  by_cases c4 : v1 ≤ x7
  · rw [if_pos c4] at H
    refine pt120 (s' := (161, [some (vr 0), none, some (vi x2), some (vi x3), some (vi 1), some (vi x5), some (vi x6), some (vi x7)], [vi 1, vi x6, vr 0, vi 0, vi x2, vi 0, vr 0], (Wd S L F G h))) (by decide) [1, 0, 0, 0, 0, 0, 0, 0, 0, 0] rfl ⟨⟨trivial, ⟨⟨g2, g3⟩, c4⟩⟩, ⟨(by decide : R32 1), (by decide : ¬ (1 : Int) = (0 : Int))⟩⟩ ?_
    refine wp.cl am_m120 rfl am_m82 9 [vr 0, vi x6, vi 1] [vi 0, vi x2, vi 0, vr 0] rfl (Nat.le_of_ble_eq_true rfl) ⟨(Nat.le_of_ble_eq_true rfl), (Nat.le_of_ble_eq_true rfl)⟩ rfl (Nat.le_of_ble_eq_true rfl) rfl (Nat.le_of_ble_eq_true rfl) (Nat.le_of_ble_eq_true rfl) ⟨_, _, rfl, Nat.le_of_ble_eq_true rfl, rfl⟩ ?_
    refine wp.mono H ?_
    rintro v w1 ⟨v5, rfl, rfl, H⟩
    show wp 12 120 (164, [some (vr 0), none, some (vi x2), some (vi x3), some (vi 1), some (vi x5), some (vi x6), some (vi x7)], [vi v5, vi 0, vi x2, vi 0, vr 0], (Wd S L F G h)) _
    refine wp.cl am_m120 rfl am_m92 9 [vr 0, vi 0, vi x2, vi 0, vi v5] [] rfl (Nat.le_of_ble_eq_true rfl) ⟨(Nat.le_of_ble_eq_true rfl), (Nat.le_of_ble_eq_true rfl)⟩ rfl (Nat.le_of_ble_eq_true rfl) rfl (Nat.le_of_ble_eq_true rfl) (Nat.le_of_ble_eq_true rfl) ⟨_, _, rfl, Nat.le_of_ble_eq_true rfl, rfl⟩ ?_
    refine wp.mono H ?_
    rintro v w1 ⟨v6, rfl, rfl, H⟩
    show wp 12 120 (167, [some (vr 0), none, some (vi x2), some (vi x3), some (vi 1), some (vi x5), some (vi x6), some (vi x7)], [vi v6], (Wd S L F G h)) _
    obtain ⟨g7, H⟩ := H
    obtain ⟨g8, H⟩ := H
    refine pt120 (s' := (191, [some (vr 0), none, some (vi x2), some (vi x3), some (vi 1), some (vi x5), some (vi x6), some (vi v6)], [vi v6], (Wd S L F G h))) (by decide) [0, 0, 0, 0, 0, 0, 0, 0, 0, 0, 0, 0] rfl ⟨⟨trivial, ⟨(by decide : R32 1), (by decide : ¬ (1 : Int) = (0 : Int))⟩⟩, ⟨⟨g7, (by decide : R32 1)⟩, g8⟩⟩ ?_
    refine wp.cl am_m120 rfl am_m113 6 [vi v6] [] rfl (Nat.le_of_ble_eq_true rfl) ⟨(Nat.le_of_ble_eq_true rfl), (Nat.le_of_ble_eq_true rfl)⟩ rfl (Nat.le_of_ble_eq_true rfl) rfl (Nat.le_of_ble_eq_true rfl) (Nat.le_of_ble_eq_true rfl) trivial ?_
    refine wp.mono H ?_
    rintro v w1 ⟨v9, rfl, rfl, H⟩
    show wp 12 120 (194, [some (vr 0), none, some (vi x2), some (vi x3), some (vi 1), some (vi x5), some (vi x6), some (vi v6)], [vi v9], (Wd S L F G h)) _
    refine pt120 (s' := (198, [some (vr 0), none, some (vi x2), some (vi x3), some (vi 1), some (vi x5), some (vi x6), some (vi v6)], [vi 3, vi x6, vr 0, vi v9], (Wd S L F G h))) (by decide) [0, 0, 0] rfl trivial ?_
    refine wp.cl am_m120 rfl am_m82 9 [vr 0, vi x6, vi 3] [vi v9] rfl (Nat.le_of_ble_eq_true rfl) ⟨(Nat.le_of_ble_eq_true rfl), (Nat.le_of_ble_eq_true rfl)⟩ rfl (Nat.le_of_ble_eq_true rfl) rfl (Nat.le_of_ble_eq_true rfl) (Nat.le_of_ble_eq_true rfl) ⟨_, _, rfl, Nat.le_of_ble_eq_true rfl, rfl⟩ ?_
    refine wp.mono H ?_
    rintro v w1 ⟨v10, rfl, rfl, H⟩
    show wp 12 120 (201, [some (vr 0), none, some (vi x2), some (vi x3), some (vi 1), some (vi x5), some (vi x6), some (vi v6)], [vi v10, vi v9], (Wd S L F G h)) _
    obtain ⟨g11, H⟩ := H
    obtain ⟨g12, H⟩ := H
    obtain ⟨g13, H⟩ := H
    refine pt120 (s' := (211, [some (vr 0), none, some (vi x2), some (vi x3), some (vi 1), some (vi x5), some (vi x6), some (vi v6)], [vi 4, vi x6, vr 0, vi 1, vi v6], (Wd S L F G h))) (by decide) [0, 0, 0, 0, 0, 0] rfl ⟨trivial, ⟨⟨g11, g12⟩, g13⟩⟩ ?_
    refine wp.cl am_m120 rfl am_m82 9 [vr 0, vi x6, vi 4] [vi 1, vi v6] rfl (Nat.le_of_ble_eq_true rfl) ⟨(Nat.le_of_ble_eq_true rfl), (Nat.le_of_ble_eq_true rfl)⟩ rfl (Nat.le_of_ble_eq_true rfl) rfl (Nat.le_of_ble_eq_true rfl) (Nat.le_of_ble_eq_true rfl) ⟨_, _, rfl, Nat.le_of_ble_eq_true rfl, rfl⟩ ?_
    refine wp.mono H ?_
    rintro v w1 ⟨v14, rfl, rfl, H⟩
    show wp 12 120 (214, [some (vr 0), none, some (vi x2), some (vi x3), some (vi 1), some (vi x5), some (vi x6), some (vi v6)], [vi v14, vi 1, vi v6], (Wd S L F G h)) _
    obtain ⟨g15, H⟩ := H
    obtain ⟨g16, H⟩ := H
    refine pt120 (s' := (73, [some (vr 0), none, some (vi x2), some (vi x3), some (vi 1), some (vi ((Int32.ofInt x5 ||| Int32.ofInt v6).toInt)), some (vi (x6 + 1)), some (vi v6)], [], (Wd S L F G h))) (by decide) [0, 0, 0, 0, 0, 0, 0, 0, 0, 0, 0, 0, 0, 0] rfl ⟨trivial, ⟨g15, g16⟩⟩ ?_
    exact wp.weak (a := [some (vr 0), none, some (vi x2), some (vi x3), some (vi 1), some (vi ((Int32.ofInt x5 ||| Int32.ofInt v6).toInt)), some (vi (x6 + 1)), none]) ⟨rfl, rfl, rfl, rfl, rfl, rfl, trivial⟩ H
  · rw [if_neg c4] at H
    refine pt120 (s' := (120, [some (vr 0), none, some (vi x2), some (vi x3), some (vi 1), some (vi x5), some (vi x6), some (vi x7)], [vi x7, vi x6, vr 0, vr 0, vi x7, vi x2, vi 0, vr 0], (Wd S L F G h))) (by decide) [0, 0, 0, 0, 0, 0, 0, 0, 0, 0, 0] rfl ⟨⟨trivial, ⟨⟨g2, g3⟩, c4⟩⟩, ⟨(by decide : R32 1), (by decide : ¬ (1 : Int) = (0 : Int))⟩⟩ ?_
    refine wp.cl am_m120 rfl am_m83 7 [vr 0, vi x6, vi x7] [vr 0, vi x7, vi x2, vi 0, vr 0] rfl (Nat.le_of_ble_eq_true rfl) ⟨(Nat.le_of_ble_eq_true rfl), (Nat.le_of_ble_eq_true rfl)⟩ rfl (Nat.le_of_ble_eq_true rfl) rfl (Nat.le_of_ble_eq_true rfl) (Nat.le_of_ble_eq_true rfl) ⟨_, _, rfl, Nat.le_of_ble_eq_true rfl, rfl⟩ ?_
    refine wp.mono H ?_
    rintro v w1 ⟨v17, rfl, rfl, H⟩
    show wp 12 120 (123, [some (vr 0), none, some (vi x2), some (vi x3), some (vi 1), some (vi x5), some (vi x6), some (vi x7)], [vi v17, vr 0, vi x7, vi x2, vi 0, vr 0], (Wd S L F G h)) _
    refine pt120 (s' := (124, [some (vr 0), none, some (vi x2), some (vi x3), some (vi 1), some (vi x5), some (vi x6), some (vi x7)], [vi 0, vi v17, vr 0, vi x7, vi x2, vi 0, vr 0], (Wd S L F G h))) (by decide) [0] rfl trivial ?_
    refine wp.cl am_m120 rfl am_m72 7 [vr 0, vi v17, vi 0] [vi x7, vi x2, vi 0, vr 0] rfl (Nat.le_of_ble_eq_true rfl) ⟨(Nat.le_of_ble_eq_true rfl), (Nat.le_of_ble_eq_true rfl)⟩ rfl (Nat.le_of_ble_eq_true rfl) rfl (Nat.le_of_ble_eq_true rfl) (Nat.le_of_ble_eq_true rfl) ⟨_, _, rfl, Nat.le_of_ble_eq_true rfl, rfl⟩ ?_
    refine wp.mono H ?_
    rintro v w1 ⟨v18, rfl, rfl, H⟩
    show wp 12 120 (127, [some (vr 0), none, some (vi x2), some (vi x3), some (vi 1), some (vi x5), some (vi x6), some (vi x7)], [vi v18, vi x7, vi x2, vi 0, vr 0], (Wd S L F G h)) _
    obtain ⟨g19, H⟩ := H
    refine pt120 (s' := (128, [some (vr 0), none, some (vi x2), some (vi x3), some (vi 1), some (vi x5), some (vi x6), some (vi x7)], [vj v18, vi x7, vi x2, vi 0, vr 0], (Wd S L F G h))) (by decide) [0] rfl ⟨trivial, g19⟩ ?_
    refine wp.cl am_m120 rfl am_m96 9 [vr 0, vi 0, vi x2, vi x7, vj v18] [] rfl (Nat.le_of_ble_eq_true rfl) ⟨(Nat.le_of_ble_eq_true rfl), (Nat.le_of_ble_eq_true rfl)⟩ rfl (Nat.le_of_ble_eq_true rfl) rfl (Nat.le_of_ble_eq_true rfl) (Nat.le_of_ble_eq_true rfl) ⟨_, _, rfl, Nat.le_of_ble_eq_true rfl, rfl⟩ ?_
    refine wp.mono H ?_
    rintro v w1 ⟨v20, G21, rfl, rfl, H⟩
    show wp 12 120 (131, [some (vr 0), none, some (vi x2), some (vi x3), some (vi 1), some (vi x5), some (vi x6), some (vi x7)], [vi v20], (Wd S L F G21 h)) _
    obtain ⟨g22, H⟩ := H
    obtain ⟨g23, H⟩ := H
    refine pt120 (s' := (92, [some (vr 0), none, some (vi x2), some (vi x3), some (vi 1), some (vi x5), some (vi x6), some (vi (x7 + 1))], [], (Wd S L F G21 h))) (by decide) [0, 0, 0, 0, 0, 0, 0] rfl ⟨trivial, ⟨⟨g22, (by decide : R32 1)⟩, g23⟩⟩ ?_
    exact wp.weak (a := [some (vr 0), none, some (vi x2), some (vi x3), some (vi 1), some (vi x5), some (vi x6), some (vi (x7 + 1))]) ⟨rfl, rfl, rfl, rfl, rfl, rfl, rfl, trivial⟩ H
set_option maxRecDepth 100000 in
set_option maxHeartbeats 4000000 in
theorem T121_0 {S L : Nat} {F G : Nat → Nat → Int} {h : Nat → Nat → Option Nat} (hh : RfH h)   {Q : Option V2 → W2 → Prop}
    (H : C121_6 5 0 (Wd S L F G h) Q) : C121_0  (Wd S L F G h) Q := by
  refine pt121 (s' := (6, [some (vr 0), some (vj 5), none, some (vi 0)], [], (Wd S L F G h))) (by decide) [0, 0, 0, 0] rfl trivial ?_
  exact wp.weak (a := [some (vr 0), some (vj 5), none, some (vi 0)]) ⟨rfl, rfl, rfl, trivial⟩ H
set_option maxRecDepth 100000 in
set_option maxHeartbeats 4000000 in
theorem T121_6 {S L : Nat} {F G : Nat → Nat → Int} {h : Nat → Nat → Option Nat} (hh : RfH h) {x1 : Int} {x3 : Int}  {Q : Option V2 → W2 → Prop}
    (H : (R32 x3 ∧
 (if 10 ≤ x3 then
  C121_33 x1 0 (Wd S L F G h) Q
 else
  C75_0 x3 (Wd S L F G h) (fun v w1 => ∃ (v3 : Int) (F4 : Nat → Nat → Int), v = some (vi v3) ∧ w1 = (Wd S L F4 G h) ∧
   (R32 v3 ∧
   C121_6 ((31 * x1) + v3) (x3 + 1) (Wd S L F4 G h) Q))))) : C121_6 x1 x3 (Wd S L F G h) Q := by
  obtain ⟨g1, H⟩ := H
  refine pt121 (s' := (9, [some (vr 0), some (vj x1), none, some (vi x3)], [vi 10, vi x3], (Wd S L F G h))) (by decide) [0, 0] rfl trivial ?_
  by_cases c2 : 10 ≤ x3
  · rw [if_pos c2] at H
    refine pt121 (s' := (33, [some (vr 0), some (vj x1), none, some (vi 0)], [], (Wd S L F G h))) (by decide) [1, 0, 0] rfl ⟨trivial, ⟨⟨g1, (by decide : R32 10)⟩, c2⟩⟩ ?_
    exact wp.weak (a := [some (vr 0), some (vj x1), none, some (vi 0)]) ⟨rfl, rfl, rfl, trivial⟩ H
  · rw [if_neg c2] at H
    refine pt121 (s' := (19, [some (vr 0), some (vj x1), none, some (vi x3)], [vi x3, vr 0, vj (31 * x1)], (Wd S L F G h))) (by decide) [0, 0, 0, 0, 0, 0] rfl ⟨trivial, ⟨⟨g1, (by decide : R32 10)⟩, c2⟩⟩ ?_
    refine wp.cl am_m121 rfl am_m75 11 [vr 0, vi x3] [vj (31 * x1)] rfl (Nat.le_of_ble_eq_true rfl) ⟨(Nat.le_of_ble_eq_true rfl), (Nat.le_of_ble_eq_true rfl)⟩ rfl (Nat.le_of_ble_eq_true rfl) rfl (Nat.le_of_ble_eq_true rfl) (Nat.le_of_ble_eq_true rfl) ⟨_, _, rfl, Nat.le_of_ble_eq_true rfl, rfl⟩ ?_
    refine wp.mono H ?_
    rintro v w1 ⟨v3, F4, rfl, rfl, H⟩
    show wp 12 121 (22, [some (vr 0), some (vj x1), none, some (vi x3)], [vi v3, vj (31 * x1)], (Wd S L F4 G h)) _
    obtain ⟨g5, H⟩ := H
    refine pt121 (s' := (6, [some (vr 0), some (vj ((31 * x1) + v3)), none, some (vi (x3 + 1))], [], (Wd S L F4 G h))) (by decide) [0, 0, 0, 0, 0] rfl ⟨trivial, g5⟩ ?_
    exact wp.weak (a := [some (vr 0), some (vj ((31 * x1) + v3)), none, some (vi (x3 + 1))]) ⟨rfl, rfl, rfl, trivial⟩ H
set_option maxRecDepth 100000 in
set_option maxHeartbeats 4000000 in
theorem T121_33 {S L : Nat} {F G : Nat → Nat → Int} {h : Nat → Nat → Option Nat} (hh : RfH h) {x1 : Int} {x3 : Int}  {Q : Option V2 → W2 → Prop}
    (H : (R32 x3 ∧
 (if 12 ≤ x3 then
  C121_97 x1 0 (Wd S L F G h) Q
 else
  C72_0 x3 0 (Wd S L F G h) (fun v w1 => ∃ (v3 : Int), v = some (vi v3) ∧ w1 = (Wd S L F G h) ∧
   (R32 v3 ∧
   C72_0 x3 1 (Wd S L F G h) (fun v w1 => ∃ (v5 : Int), v = some (vi v5) ∧ w1 = (Wd S L F G h) ∧
    (R32 v5 ∧
    C72_0 x3 2 (Wd S L F G h) (fun v w1 => ∃ (v7 : Int), v = some (vi v7) ∧ w1 = (Wd S L F G h) ∧
     (R32 v7 ∧
     C72_0 x3 3 (Wd S L F G h) (fun v w1 => ∃ (v9 : Int), v = some (vi v9) ∧ w1 = (Wd S L F G h) ∧
      (R32 v9 ∧
      C121_33 (((((31 * x1) + v3) + (7 * v5)) + (61 * v7)) + (997 * v9)) (x3 + 1) (Wd S L F G h) Q))))))))))) : C121_33 x1 x3 (Wd S L F G h) Q := by
  obtain ⟨g1, H⟩ := H
  refine pt121 (s' := (36, [some (vr 0), some (vj x1), none, some (vi x3)], [vi 12, vi x3], (Wd S L F G h))) (by decide) [0, 0] rfl trivial ?_
  by_cases c2 : 12 ≤ x3
  · rw [if_pos c2] at H
    refine pt121 (s' := (97, [some (vr 0), some (vj x1), none, some (vi 0)], [], (Wd S L F G h))) (by decide) [1, 0, 0] rfl ⟨trivial, ⟨⟨g1, (by decide : R32 12)⟩, c2⟩⟩ ?_
    exact wp.weak (a := [some (vr 0), some (vj x1), none, some (vi 0)]) ⟨rfl, rfl, rfl, trivial⟩ H
  · rw [if_neg c2] at H
    refine pt121 (s' := (47, [some (vr 0), some (vj x1), none, some (vi x3)], [vi 0, vi x3, vr 0, vj (31 * x1)], (Wd S L F G h))) (by decide) [0, 0, 0, 0, 0, 0, 0] rfl ⟨trivial, ⟨⟨g1, (by decide : R32 12)⟩, c2⟩⟩ ?_
    refine wp.cl am_m121 rfl am_m72 7 [vr 0, vi x3, vi 0] [vj (31 * x1)] rfl (Nat.le_of_ble_eq_true rfl) ⟨(Nat.le_of_ble_eq_true rfl), (Nat.le_of_ble_eq_true rfl)⟩ rfl (Nat.le_of_ble_eq_true rfl) rfl (Nat.le_of_ble_eq_true rfl) (Nat.le_of_ble_eq_true rfl) ⟨_, _, rfl, Nat.le_of_ble_eq_true rfl, rfl⟩ ?_
    refine wp.mono H ?_
    rintro v w1 ⟨v3, rfl, rfl, H⟩
    show wp 12 121 (50, [some (vr 0), some (vj x1), none, some (vi x3)], [vi v3, vj (31 * x1)], (Wd S L F G h)) _
    obtain ⟨g4, H⟩ := H
    refine pt121 (s' := (58, [some (vr 0), some (vj x1), none, some (vi x3)], [vi 1, vi x3, vr 0, vj 7, vj ((31 * x1) + v3)], (Wd S L F G h))) (by decide) [0, 0, 0, 0, 0, 0] rfl ⟨trivial, g4⟩ ?_
    refine wp.cl am_m121 rfl am_m72 7 [vr 0, vi x3, vi 1] [vj 7, vj ((31 * x1) + v3)] rfl (Nat.le_of_ble_eq_true rfl) ⟨(Nat.le_of_ble_eq_true rfl), (Nat.le_of_ble_eq_true rfl)⟩ rfl (Nat.le_of_ble_eq_true rfl) rfl (Nat.le_of_ble_eq_true rfl) (Nat.le_of_ble_eq_true rfl) ⟨_, _, rfl, Nat.le_of_ble_eq_true rfl, rfl⟩ ?_
    refine wp.mono H ?_
    rintro v w1 ⟨v5, rfl, rfl, H⟩
    show wp 12 121 (61, [some (vr 0), some (vj x1), none, some (vi x3)], [vi v5, vj 7, vj ((31 * x1) + v3)], (Wd S L F G h)) _
    obtain ⟨g6, H⟩ := H
    refine pt121 (s' := (70, [some (vr 0), some (vj x1), none, some (vi x3)], [vi 2, vi x3, vr 0, vj 61, vj (((31 * x1) + v3) + (7 * v5))], (Wd S L F G h))) (by decide) [0, 0, 0, 0, 0, 0, 0] rfl ⟨trivial, g6⟩ ?_
    refine wp.cl am_m121 rfl am_m72 7 [vr 0, vi x3, vi 2] [vj 61, vj (((31 * x1) + v3) + (7 * v5))] rfl (Nat.le_of_ble_eq_true rfl) ⟨(Nat.le_of_ble_eq_true rfl), (Nat.le_of_ble_eq_true rfl)⟩ rfl (Nat.le_of_ble_eq_true rfl) rfl (Nat.le_of_ble_eq_true rfl) (Nat.le_of_ble_eq_true rfl) ⟨_, _, rfl, Nat.le_of_ble_eq_true rfl, rfl⟩ ?_
    refine wp.mono H ?_
    rintro v w1 ⟨v7, rfl, rfl, H⟩
    show wp 12 121 (73, [some (vr 0), some (vj x1), none, some (vi x3)], [vi v7, vj 61, vj (((31 * x1) + v3) + (7 * v5))], (Wd S L F G h)) _
    obtain ⟨g8, H⟩ := H
    refine pt121 (s' := (82, [some (vr 0), some (vj x1), none, some (vi x3)], [vi 3, vi x3, vr 0, vj 997, vj ((((31 * x1) + v3) + (7 * v5)) + (61 * v7))], (Wd S L F G h))) (by decide) [0, 0, 0, 0, 0, 0, 0] rfl ⟨trivial, g8⟩ ?_
    refine wp.cl am_m121 rfl am_m72 7 [vr 0, vi x3, vi 3] [vj 997, vj ((((31 * x1) + v3) + (7 * v5)) + (61 * v7))] rfl (Nat.le_of_ble_eq_true rfl) ⟨(Nat.le_of_ble_eq_true rfl), (Nat.le_of_ble_eq_true rfl)⟩ rfl (Nat.le_of_ble_eq_true rfl) rfl (Nat.le_of_ble_eq_true rfl) (Nat.le_of_ble_eq_true rfl) ⟨_, _, rfl, Nat.le_of_ble_eq_true rfl, rfl⟩ ?_
    refine wp.mono H ?_
    rintro v w1 ⟨v9, rfl, rfl, H⟩
    show wp 12 121 (85, [some (vr 0), some (vj x1), none, some (vi x3)], [vi v9, vj 997, vj ((((31 * x1) + v3) + (7 * v5)) + (61 * v7))], (Wd S L F G h)) _
    obtain ⟨g10, H⟩ := H
    refine pt121 (s' := (33, [some (vr 0), some (vj (((((31 * x1) + v3) + (7 * v5)) + (61 * v7)) + (997 * v9))), none, some (vi (x3 + 1))], [], (Wd S L F G h))) (by decide) [0, 0, 0, 0, 0, 0] rfl ⟨trivial, g10⟩ ?_
    exact wp.weak (a := [some (vr 0), some (vj (((((31 * x1) + v3) + (7 * v5)) + (61 * v7)) + (997 * v9))), none, some (vi (x3 + 1))]) ⟨rfl, rfl, rfl, trivial⟩ H
set_option maxRecDepth 100000 in
set_option maxHeartbeats 4000000 in
theorem T121_97 {S L : Nat} {F G : Nat → Nat → Int} {h : Nat → Nat → Option Nat} (hh : RfH h) {x1 : Int} {x3 : Int}  {Q : Option V2 → W2 → Prop}
    (H : C75_0 0 (Wd S L F G h) (fun v w1 => ∃ (v1 : Int) (F2 : Nat → Nat → Int), v = some (vi v1) ∧ w1 = (Wd S L F2 G h) ∧
  (R32 x3 ∧
  R32 v1 ∧
  (if v1 ≤ x3 then
   C121_152 x1 0 (Wd S L F2 G h) Q
  else
   C73_0 x3 0 (Wd S L F2 G h) (fun v w1 => ∃ (v6 : Int) (F7 : Nat → Nat → Int), v = some (vi v6) ∧ w1 = (Wd S L F7 G h) ∧
    (R32 v6 ∧
    C73_0 x3 1 (Wd S L F7 G h) (fun v w1 => ∃ (v9 : Int) (F10 : Nat → Nat → Int), v = some (vi v9) ∧ w1 = (Wd S L F10 G h) ∧
     (R32 v9 ∧
     C80_0 x3 1 (Wd S L F10 G h) (fun v w1 => ∃ (v12 : Int), v = some (vi v12) ∧ w1 = (Wd S L F10 G h) ∧
      (R32 v12 ∧
      C121_97 ((((31 * x1) + v6) + (13 * v9)) + (300 * v12)) (x3 + 1) (Wd S L F10 G h) Q)))))))))) : C121_97 x1 x3 (Wd S L F G h) Q := by
  refine pt121 (s' := (100, [some (vr 0), some (vj x1), none, some (vi x3)], [vi 0, vr 0, vi x3], (Wd S L F G h))) (by decide) [0, 0, 0] rfl trivial ?_
  refine wp.cl am_m121 rfl am_m75 11 [vr 0, vi 0] [vi x3] rfl (Nat.le_of_ble_eq_true rfl) ⟨(Nat.le_of_ble_eq_true rfl), (Nat.le_of_ble_eq_true rfl)⟩ rfl (Nat.le_of_ble_eq_true rfl) rfl (Nat.le_of_ble_eq_true rfl) (Nat.le_of_ble_eq_true rfl) ⟨_, _, rfl, Nat.le_of_ble_eq_true rfl, rfl⟩ ?_
  refine wp.mono H ?_
  rintro v w1 ⟨v1, F2, rfl, rfl, H⟩
  show wp 12 121 (103, [some (vr 0), some (vj x1), none, some (vi x3)], [vi v1, vi x3], (Wd S L F2 G h)) _
  obtain ⟨g3, H⟩ := H
  obtain ⟨g4, H⟩ := H
  by_cases c5 : v1 ≤ x3
  · rw [if_pos c5] at H
    refine pt121 (s' := (152, [some (vr 0), some (vj x1), none, some (vi 0)], [], (Wd S L F2 G h))) (by decide) [1, 0, 0] rfl ⟨trivial, ⟨⟨g3, g4⟩, c5⟩⟩ ?_
    exact wp.weak (a := [some (vr 0), some (vj x1), none, some (vi 0)]) ⟨rfl, rfl, rfl, trivial⟩ H
  · rw [if_neg c5] at H
    refine pt121 (s' := (114, [some (vr 0), some (vj x1), none, some (vi x3)], [vi 0, vi x3, vr 0, vj (31 * x1)], (Wd S L F2 G h))) (by decide) [0, 0, 0, 0, 0, 0, 0] rfl ⟨trivial, ⟨⟨g3, g4⟩, c5⟩⟩ ?_
    refine wp.cl am_m121 rfl am_m73 11 [vr 0, vi x3, vi 0] [vj (31 * x1)] rfl (Nat.le_of_ble_eq_true rfl) ⟨(Nat.le_of_ble_eq_true rfl), (Nat.le_of_ble_eq_true rfl)⟩ rfl (Nat.le_of_ble_eq_true rfl) rfl (Nat.le_of_ble_eq_true rfl) (Nat.le_of_ble_eq_true rfl) ⟨_, _, rfl, Nat.le_of_ble_eq_true rfl, rfl⟩ ?_
    refine wp.mono H ?_
    rintro v w1 ⟨v6, F7, rfl, rfl, H⟩
    show wp 12 121 (117, [some (vr 0), some (vj x1), none, some (vi x3)], [vi v6, vj (31 * x1)], (Wd S L F7 G h)) _
    obtain ⟨g8, H⟩ := H
    refine pt121 (s' := (125, [some (vr 0), some (vj x1), none, some (vi x3)], [vi 1, vi x3, vr 0, vj 13, vj ((31 * x1) + v6)], (Wd S L F7 G h))) (by decide) [0, 0, 0, 0, 0, 0] rfl ⟨trivial, g8⟩ ?_
    refine wp.cl am_m121 rfl am_m73 11 [vr 0, vi x3, vi 1] [vj 13, vj ((31 * x1) + v6)] rfl (Nat.le_of_ble_eq_true rfl) ⟨(Nat.le_of_ble_eq_true rfl), (Nat.le_of_ble_eq_true rfl)⟩ rfl (Nat.le_of_ble_eq_true rfl) rfl (Nat.le_of_ble_eq_true rfl) (Nat.le_of_ble_eq_true rfl) ⟨_, _, rfl, Nat.le_of_ble_eq_true rfl, rfl⟩ ?_
    refine wp.mono H ?_
    rintro v w1 ⟨v9, F10, rfl, rfl, H⟩
    show wp 12 121 (128, [some (vr 0), some (vj x1), none, some (vi x3)], [vi v9, vj 13, vj ((31 * x1) + v6)], (Wd S L F10 G h)) _
    obtain ⟨g11, H⟩ := H
    refine pt121 (s' := (137, [some (vr 0), some (vj x1), none, some (vi x3)], [vi 1, vi x3, vr 0, vj 300, vj (((31 * x1) + v6) + (13 * v9))], (Wd S L F10 G h))) (by decide) [0, 0, 0, 0, 0, 0, 0] rfl ⟨trivial, g11⟩ ?_
    refine wp.cl am_m121 rfl am_m80 9 [vr 0, vi x3, vi 1] [vj 300, vj (((31 * x1) + v6) + (13 * v9))] rfl (Nat.le_of_ble_eq_true rfl) ⟨(Nat.le_of_ble_eq_true rfl), (Nat.le_of_ble_eq_true rfl)⟩ rfl (Nat.le_of_ble_eq_true rfl) rfl (Nat.le_of_ble_eq_true rfl) (Nat.le_of_ble_eq_true rfl) ⟨_, _, rfl, Nat.le_of_ble_eq_true rfl, rfl⟩ ?_
    refine wp.mono H ?_
    rintro v w1 ⟨v12, rfl, rfl, H⟩
    show wp 12 121 (140, [some (vr 0), some (vj x1), none, some (vi x3)], [vi v12, vj 300, vj (((31 * x1) + v6) + (13 * v9))], (Wd S L F10 G h)) _
    obtain ⟨g13, H⟩ := H
    refine pt121 (s' := (97, [some (vr 0), some (vj ((((31 * x1) + v6) + (13 * v9)) + (300 * v12))), none, some (vi (x3 + 1))], [], (Wd S L F10 G h))) (by decide) [0, 0, 0, 0, 0, 0] rfl ⟨trivial, g13⟩ ?_
    exact wp.weak (a := [some (vr 0), some (vj ((((31 * x1) + v6) + (13 * v9)) + (300 * v12))), none, some (vi (x3 + 1))]) ⟨rfl, rfl, rfl, trivial⟩ H
set_option maxRecDepth 100000 in
set_option maxHeartbeats 4000000 in
theorem T121_152 {S L : Nat} {F G : Nat → Nat → Int} {h : Nat → Nat → Option Nat} (hh : RfH h) {x1 : Int} {x3 : Int}  {Q : Option V2 → W2 → Prop}
    (H : C75_0 9 (Wd S L F G h) (fun v w1 => ∃ (v1 : Int) (F2 : Nat → Nat → Int), v = some (vi v1) ∧ w1 = (Wd S L F2 G h) ∧
  (R32 x3 ∧
  R32 v1 ∧
  (if v1 ≤ x3 then
   Q (some (vj x1)) (Wd S L F2 G h)
  else
   C82_0 x3 0 (Wd S L F2 G h) (fun v w1 => ∃ (v6 : Int), v = some (vi v6) ∧ w1 = (Wd S L F2 G h) ∧
    (R32 v6 ∧
    C83_0 x3 0 (Wd S L F2 G h) (fun v w1 => ∃ (v8 : Int), v = some (vi v8) ∧ w1 = (Wd S L F2 G h) ∧
     (R32 v8 ∧
     C121_152 (((31 * x1) + v6) + (11 * v8)) (x3 + 1) (Wd S L F2 G h) Q)))))))) : C121_152 x1 x3 (Wd S L F G h) Q := by
  refine pt121 (s' := (156, [some (vr 0), some (vj x1), none, some (vi x3)], [vi 9, vr 0, vi x3], (Wd S L F G h))) (by decide) [0, 0, 0] rfl trivial ?_
  refine wp.cl am_m121 rfl am_m75 11 [vr 0, vi 9] [vi x3] rfl (Nat.le_of_ble_eq_true rfl) ⟨(Nat.le_of_ble_eq_true rfl), (Nat.le_of_ble_eq_true rfl)⟩ rfl (Nat.le_of_ble_eq_true rfl) rfl (Nat.le_of_ble_eq_true rfl) (Nat.le_of_ble_eq_true rfl) ⟨_, _, rfl, Nat.le_of_ble_eq_true rfl, rfl⟩ ?_
  refine wp.mono H ?_
  rintro v w1 ⟨v1, F2, rfl, rfl, H⟩
  show wp 12 121 (159, [some (vr 0), some (vj x1), none, some (vi x3)], [vi v1, vi x3], (Wd S L F2 G h)) _
  obtain ⟨g3, H⟩ := H
  obtain ⟨g4, H⟩ := H
  by_cases c5 : v1 ≤ x3
  · rw [if_pos c5] at H
    refine pt121 (s' := (195, [some (vr 0), some (vj x1), none, some (vi x3)], [vj x1], (Wd S L F2 G h))) (by decide) [1, 0] rfl ⟨trivial, ⟨⟨g3, g4⟩, c5⟩⟩ ?_
    exact wp.fin (v := some (vj x1)) (by decide) am_m121 rfl ⟨_, rfl, rfl, rfl⟩ H
  · rw [if_neg c5] at H
    refine pt121 (s' := (170, [some (vr 0), some (vj x1), none, some (vi x3)], [vi 0, vi x3, vr 0, vj (31 * x1)], (Wd S L F2 G h))) (by decide) [0, 0, 0, 0, 0, 0, 0] rfl ⟨trivial, ⟨⟨g3, g4⟩, c5⟩⟩ ?_
    refine wp.cl am_m121 rfl am_m82 9 [vr 0, vi x3, vi 0] [vj (31 * x1)] rfl (Nat.le_of_ble_eq_true rfl) ⟨(Nat.le_of_ble_eq_true rfl), (Nat.le_of_ble_eq_true rfl)⟩ rfl (Nat.le_of_ble_eq_true rfl) rfl (Nat.le_of_ble_eq_true rfl) (Nat.le_of_ble_eq_true rfl) ⟨_, _, rfl, Nat.le_of_ble_eq_true rfl, rfl⟩ ?_
    refine wp.mono H ?_
    rintro v w1 ⟨v6, rfl, rfl, H⟩
    show wp 12 121 (173, [some (vr 0), some (vj x1), none, some (vi x3)], [vi v6, vj (31 * x1)], (Wd S L F2 G h)) _
    obtain ⟨g7, H⟩ := H
    refine pt121 (s' := (181, [some (vr 0), some (vj x1), none, some (vi x3)], [vi 0, vi x3, vr 0, vj 11, vj ((31 * x1) + v6)], (Wd S L F2 G h))) (by decide) [0, 0, 0, 0, 0, 0] rfl ⟨trivial, g7⟩ ?_
    refine wp.cl am_m121 rfl am_m83 7 [vr 0, vi x3, vi 0] [vj 11, vj ((31 * x1) + v6)] rfl (Nat.le_of_ble_eq_true rfl) ⟨(Nat.le_of_ble_eq_true rfl), (Nat.le_of_ble_eq_true rfl)⟩ rfl (Nat.le_of_ble_eq_true rfl) rfl (Nat.le_of_ble_eq_true rfl) (Nat.le_of_ble_eq_true rfl) ⟨_, _, rfl, Nat.le_of_ble_eq_true rfl, rfl⟩ ?_
    refine wp.mono H ?_
    rintro v w1 ⟨v8, rfl, rfl, H⟩
    show wp 12 121 (184, [some (vr 0), some (vj x1), none, some (vi x3)], [vi v8, vj 11, vj ((31 * x1) + v6)], (Wd S L F2 G h)) _
    obtain ⟨g9, H⟩ := H
    refine pt121 (s' := (152, [some (vr 0), some (vj (((31 * x1) + v6) + (11 * v8))), none, some (vi (x3 + 1))], [], (Wd S L F2 G h))) (by decide) [0, 0, 0, 0, 0, 0] rfl ⟨trivial, g9⟩ ?_
    exact wp.weak (a := [some (vr 0), some (vj (((31 * x1) + v6) + (11 * v8))), none, some (vi (x3 + 1))]) ⟨rfl, rfl, rfl, trivial⟩ H
