/-! the methods walked, by program (wip/p35/sym.py) -/
set_option maxRecDepth 100000 in
set_option maxHeartbeats 4000000 in
theorem T77_0 {S L : Nat} {F G : Nat → Nat → Int} {h : Nat → Nat → Option Nat} (hh : RfH h) {a1 : Int} {a2 : Int} {a3 : Int}  {Q : Option V2 → W2 → Prop}
    (H : C1_0  (Wd S L F G h) (fun v w1 => ∃ (F1 : Nat → Nat → Int), v = none ∧ w1 = (Wd S L F1 G h) ∧
  (R32 a1 ∧
  (if a1 < 0 then
   Q (some (vj (-1))) (Wd S L F1 G h)
  else
   (R32 ((F1 275 7) - 1) ∧
   (if ((F1 275 7) - 1) < a1 then
    Q (some (vj (-1))) (Wd S L F1 G h)
   else
    (R32 a2 ∧
    (if a2 = 0 then
     (R32 a3 ∧
     (if a3 = 0 then
      C9_0 a2 (Wd S L F1 G h) (fun v w1 => ∃ (F10 : Nat → Nat → Int) (G11 : Nat → Nat → Int), v = none ∧ w1 = (Wd S L F10 G11 h) ∧
       C11_0 a1 (F10 1 9) (Wd S L F10 G11 h) (fun v w1 => ∃ (v12 : Int), v = some (vj v12) ∧ w1 = (Wd S L F10 G11 h) ∧
        C105_0 v12 151351200 a3 (Wd S L F10 G11 h) (fun v w1 => ∃ (v13 : Int), v = some (vj v13) ∧ w1 = (Wd S L F10 G11 h) ∧
         Q (some (vj v13)) (Wd S L F10 G11 h))))
     else
      (if a3 = 1 then
       C9_0 a2 (Wd S L F1 G h) (fun v w1 => ∃ (F15 : Nat → Nat → Int) (G16 : Nat → Nat → Int), v = none ∧ w1 = (Wd S L F15 G16 h) ∧
        C11_0 a1 (F15 1 9) (Wd S L F15 G16 h) (fun v w1 => ∃ (v17 : Int), v = some (vj v17) ∧ w1 = (Wd S L F15 G16 h) ∧
         C105_0 v17 151351200 a3 (Wd S L F15 G16 h) (fun v w1 => ∃ (v18 : Int), v = some (vj v18) ∧ w1 = (Wd S L F15 G16 h) ∧
          Q (some (vj v18)) (Wd S L F15 G16 h))))
      else
       Q (some (vj (-1))) (Wd S L F1 G h))))
    else
     (if a2 = 1 then
      (R32 a3 ∧
      (if a3 = 0 then
       C9_0 a2 (Wd S L F1 G h) (fun v w1 => ∃ (F22 : Nat → Nat → Int) (G23 : Nat → Nat → Int), v = none ∧ w1 = (Wd S L F22 G23 h) ∧
        C11_0 a1 (F22 1 9) (Wd S L F22 G23 h) (fun v w1 => ∃ (v24 : Int), v = some (vj v24) ∧ w1 = (Wd S L F22 G23 h) ∧
         C105_0 v24 151351200 a3 (Wd S L F22 G23 h) (fun v w1 => ∃ (v25 : Int), v = some (vj v25) ∧ w1 = (Wd S L F22 G23 h) ∧
          Q (some (vj v25)) (Wd S L F22 G23 h))))
      else
       (if a3 = 1 then
        C9_0 a2 (Wd S L F1 G h) (fun v w1 => ∃ (F27 : Nat → Nat → Int) (G28 : Nat → Nat → Int), v = none ∧ w1 = (Wd S L F27 G28 h) ∧
         C11_0 a1 (F27 1 9) (Wd S L F27 G28 h) (fun v w1 => ∃ (v29 : Int), v = some (vj v29) ∧ w1 = (Wd S L F27 G28 h) ∧
          C105_0 v29 151351200 a3 (Wd S L F27 G28 h) (fun v w1 => ∃ (v30 : Int), v = some (vj v30) ∧ w1 = (Wd S L F27 G28 h) ∧
           Q (some (vj v30)) (Wd S L F27 G28 h))))
       else
        Q (some (vj (-1))) (Wd S L F1 G h))))
     else
      Q (some (vj (-1))) (Wd S L F1 G h)))))))))) : C77_0 a1 a2 a3 (Wd S L F G h) Q := by
  refine pt77 (s' := (8, [some (vr 0), some (vi a1), some (vi a2), some (vi a3)], [vr 1, vr 275], (Wd S L F G h))) (by decide) [0, 275, 0, 1] rfl ⟨⟨trivial, ⟨Nat.le_of_ble_eq_true rfl, rfl, hh _ _ _ rfl⟩⟩, ⟨Nat.le_of_ble_eq_true rfl, rfl, hh _ _ _ rfl⟩⟩ ?_
  refine wp.cl am_m77 rfl am_m1 10 [vr 275, vr 1] [] rfl (Nat.le_of_ble_eq_true rfl) ⟨(Nat.le_of_ble_eq_true rfl), (Nat.le_of_ble_eq_true rfl)⟩ rfl (Nat.le_of_ble_eq_true rfl) rfl (Nat.le_of_ble_eq_true rfl) (Nat.le_of_ble_eq_true rfl) ⟨_, _, rfl, Nat.le_of_ble_eq_true rfl, rfl⟩ ?_
  refine wp.mono H ?_
  rintro v w1 ⟨F1, rfl, rfl, H⟩
  show wp 11 77 (11, [some (vr 0), some (vi a1), some (vi a2), some (vi a3)], [], (Wd S L F1 G h)) _
  refine pt77 (s' := (22, [some (vr 0), some (vi a1), some (vi a2), some (vi a3)], [vi ((F1 275 7) - 1), vi 0, vi a1], (Wd S L F1 G h))) (by decide) [0, 0, 0, 275, 0, 0, 0] rfl ⟨⟨trivial, ⟨Nat.le_of_ble_eq_true rfl, rfl, hh _ _ _ rfl⟩⟩, ⟨Nat.le_of_ble_eq_true rfl, rfl⟩⟩ ?_
  refine wp.cl am_m77 rfl am_m101 6 [vi a1, vi 0, vi ((F1 275 7) - 1)] [] rfl (Nat.le_of_ble_eq_true rfl) ⟨(Nat.le_of_ble_eq_true rfl), (Nat.le_of_ble_eq_true rfl)⟩ rfl (Nat.le_of_ble_eq_true rfl) rfl (Nat.le_of_ble_eq_true rfl) (Nat.le_of_ble_eq_true rfl) trivial ?_
  obtain ⟨g2, H⟩ := H
  refine pt101 (s' := (2, [some (vi a1), some (vi 0), some (vi ((F1 275 7) - 1))], [vi 0, vi a1], (Wd S L F1 G h))) (by decide) [0, 0] rfl trivial ?_
  by_cases c3 : a1 < 0
  · rw [if_pos c3] at H
    refine pt101 (s' := (15, [some (vi a1), some (vi 0), some (vi ((F1 275 7) - 1))], [vi 0], (Wd S L F1 G h))) (by decide) [1, 0] rfl ⟨trivial, ⟨⟨g2, (by decide : R32 0)⟩, c3⟩⟩ ?_
    refine wp.fin (v := some (vi 0)) (by decide) am_m101 rfl ⟨_, rfl, Or.inr ⟨rfl, Or.inl rfl⟩, rfl⟩ ?_
    show wp 11 77 (25, [some (vr 0), some (vi a1), some (vi a2), some (vi a3)], [vi 0], (Wd S L F1 G h)) _
    refine pt77 (s' := (45, [some (vr 0), some (vi a1), some (vi a2), some (vi a3)], [vj (-1)], (Wd S L F1 G h))) (by decide) [1, 0] rfl ⟨trivial, ⟨(by decide : R32 0), (by decide : (0 : Int) = (0 : Int))⟩⟩ ?_
    exact wp.fin (v := some (vj (-1))) (by decide) am_m77 rfl ⟨_, rfl, rfl, rfl⟩ H
  · rw [if_neg c3] at H
    obtain ⟨g4, H⟩ := H
    refine pt101 (s' := (7, [some (vi a1), some (vi 0), some (vi ((F1 275 7) - 1))], [vi ((F1 275 7) - 1), vi a1], (Wd S L F1 G h))) (by decide) [0, 0, 0] rfl ⟨trivial, ⟨⟨g2, (by decide : R32 0)⟩, c3⟩⟩ ?_
    by_cases c5 : ((F1 275 7) - 1) < a1
    · rw [if_pos c5] at H
      refine pt101 (s' := (15, [some (vi a1), some (vi 0), some (vi ((F1 275 7) - 1))], [vi 0], (Wd S L F1 G h))) (by decide) [1, 0] rfl ⟨trivial, ⟨⟨g2, g4⟩, c5⟩⟩ ?_
      refine wp.fin (v := some (vi 0)) (by decide) am_m101 rfl ⟨_, rfl, Or.inr ⟨rfl, Or.inl rfl⟩, rfl⟩ ?_
      show wp 11 77 (25, [some (vr 0), some (vi a1), some (vi a2), some (vi a3)], [vi 0], (Wd S L F1 G h)) _
      refine pt77 (s' := (45, [some (vr 0), some (vi a1), some (vi a2), some (vi a3)], [vj (-1)], (Wd S L F1 G h))) (by decide) [1, 0] rfl ⟨trivial, ⟨(by decide : R32 0), (by decide : (0 : Int) = (0 : Int))⟩⟩ ?_
      exact wp.fin (v := some (vj (-1))) (by decide) am_m77 rfl ⟨_, rfl, rfl, rfl⟩ H
    · rw [if_neg c5] at H
      refine pt101 (s' := (15, [some (vi a1), some (vi 0), some (vi ((F1 275 7) - 1))], [vi 1], (Wd S L F1 G h))) (by decide) [0, 0, 0] rfl ⟨trivial, ⟨⟨g2, g4⟩, c5⟩⟩ ?_
      refine wp.fin (v := some (vi 1)) (by decide) am_m101 rfl ⟨_, rfl, Or.inr ⟨rfl, Or.inr rfl⟩, rfl⟩ ?_
      show wp 11 77 (25, [some (vr 0), some (vi a1), some (vi a2), some (vi a3)], [vi 1], (Wd S L F1 G h)) _
      refine pt77 (s' := (29, [some (vr 0), some (vi a1), some (vi a2), some (vi a3)], [vi a2], (Wd S L F1 G h))) (by decide) [0, 0] rfl ⟨trivial, ⟨(by decide : R32 1), (by decide : ¬ (1 : Int) = (0 : Int))⟩⟩ ?_
      refine wp.cl am_m77 rfl am_m102 6 [vi a2] [] rfl (Nat.le_of_ble_eq_true rfl) ⟨(Nat.le_of_ble_eq_true rfl), (Nat.le_of_ble_eq_true rfl)⟩ rfl (Nat.le_of_ble_eq_true rfl) rfl (Nat.le_of_ble_eq_true rfl) (Nat.le_of_ble_eq_true rfl) trivial ?_
      obtain ⟨g6, H⟩ := H
      refine pt102 (s' := (1, [some (vi a2)], [vi a2], (Wd S L F1 G h))) (by decide) [0] rfl trivial ?_
      by_cases c7 : a2 = 0
      · rw [if_pos c7] at H
        refine pt102 (s' := (14, [some (vi a2)], [vi 1], (Wd S L F1 G h))) (by decide) [1, 0, 0] rfl ⟨trivial, ⟨g6, c7⟩⟩ ?_
        refine wp.fin (v := some (vi 1)) (by decide) am_m102 rfl ⟨_, rfl, Or.inr ⟨rfl, Or.inr rfl⟩, rfl⟩ ?_
        show wp 11 77 (32, [some (vr 0), some (vi a1), some (vi a2), some (vi a3)], [vi 1], (Wd S L F1 G h)) _
        refine pt77 (s' := (36, [some (vr 0), some (vi a1), some (vi a2), some (vi a3)], [vi a3], (Wd S L F1 G h))) (by decide) [0, 0] rfl ⟨trivial, ⟨(by decide : R32 1), (by decide : ¬ (1 : Int) = (0 : Int))⟩⟩ ?_
        refine wp.cl am_m77 rfl am_m103 6 [vi a3] [] rfl (Nat.le_of_ble_eq_true rfl) ⟨(Nat.le_of_ble_eq_true rfl), (Nat.le_of_ble_eq_true rfl)⟩ rfl (Nat.le_of_ble_eq_true rfl) rfl (Nat.le_of_ble_eq_true rfl) (Nat.le_of_ble_eq_true rfl) trivial ?_
        obtain ⟨g8, H⟩ := H
        refine pt103 (s' := (1, [some (vi a3)], [vi a3], (Wd S L F1 G h))) (by decide) [0] rfl trivial ?_
        by_cases c9 : a3 = 0
        · rw [if_pos c9] at H
          refine pt103 (s' := (14, [some (vi a3)], [vi 1], (Wd S L F1 G h))) (by decide) [1, 0, 0] rfl ⟨trivial, ⟨g8, c9⟩⟩ ?_
          refine wp.fin (v := some (vi 1)) (by decide) am_m103 rfl ⟨_, rfl, Or.inr ⟨rfl, Or.inr rfl⟩, rfl⟩ ?_
          show wp 11 77 (39, [some (vr 0), some (vi a1), some (vi a2), some (vi a3)], [vi 1], (Wd S L F1 G h)) _
          refine pt77 (s' := (55, [some (vr 0), some (vi a1), some (vi a2), some (vi a3)], [vi a2, vr 1, vr 281], (Wd S L F1 G h))) (by decide) [1, 0, 281, 0, 1, 0] rfl ⟨⟨⟨trivial, ⟨(by decide : R32 1), (by decide : ¬ (1 : Int) = (0 : Int))⟩⟩, ⟨Nat.le_of_ble_eq_true rfl, rfl, hh _ _ _ rfl⟩⟩, ⟨Nat.le_of_ble_eq_true rfl, rfl, hh _ _ _ rfl⟩⟩ ?_
          refine wp.cl am_m77 rfl am_m9 8 [vr 281, vr 1, vi a2] [] rfl (Nat.le_of_ble_eq_true rfl) ⟨(Nat.le_of_ble_eq_true rfl), (Nat.le_of_ble_eq_true rfl)⟩ rfl (Nat.le_of_ble_eq_true rfl) rfl (Nat.le_of_ble_eq_true rfl) (Nat.le_of_ble_eq_true rfl) ⟨_, _, rfl, Nat.le_of_ble_eq_true rfl, rfl⟩ ?_
          refine wp.mono H ?_
          rintro v w1 ⟨F10, G11, rfl, rfl, H⟩
          show wp 11 77 (58, [some (vr 0), some (vi a1), some (vi a2), some (vi a3)], [], (Wd S L F10 G11 h)) _
          refine pt77 (s' := (74, [some (vr 0), some (vi a1), some (vi a2), some (vi a3)], [vi (F10 1 9), vi a1, vr 275, vr 281], (Wd S L F10 G11 h))) (by decide) [0, 281, 0, 275, 0, 0, 1, 0] rfl ⟨⟨⟨⟨trivial, ⟨Nat.le_of_ble_eq_true rfl, rfl, hh _ _ _ rfl⟩⟩, ⟨Nat.le_of_ble_eq_true rfl, rfl, hh _ _ _ rfl⟩⟩, ⟨Nat.le_of_ble_eq_true rfl, rfl, hh _ _ _ rfl⟩⟩, ⟨Nat.le_of_ble_eq_true rfl, rfl⟩⟩ ?_
          refine wp.cl am_m77 rfl am_m11 7 [vr 281, vr 275, vi a1, vi (F10 1 9)] [] rfl (Nat.le_of_ble_eq_true rfl) ⟨(Nat.le_of_ble_eq_true rfl), (Nat.le_of_ble_eq_true rfl)⟩ rfl (Nat.le_of_ble_eq_true rfl) rfl (Nat.le_of_ble_eq_true rfl) (Nat.le_of_ble_eq_true rfl) ⟨_, _, rfl, Nat.le_of_ble_eq_true rfl, rfl⟩ ?_
          refine wp.mono H ?_
          rintro v w1 ⟨v12, rfl, rfl, H⟩
          show wp 11 77 (77, [some (vr 0), some (vi a1), some (vi a2), some (vi a3)], [vj v12], (Wd S L F10 G11 h)) _
          refine pt77 (s' := (81, [some (vr 0), some (vi a1), some (vi a2), some (vi a3)], [vi a3, vj 151351200, vj v12], (Wd S L F10 G11 h))) (by decide) [0, 0] rfl trivial ?_
          refine wp.cl am_m77 rfl am_m105 7 [vj v12, vj 151351200, vi a3] [] rfl (Nat.le_of_ble_eq_true rfl) ⟨(Nat.le_of_ble_eq_true rfl), (Nat.le_of_ble_eq_true rfl)⟩ rfl (Nat.le_of_ble_eq_true rfl) rfl (Nat.le_of_ble_eq_true rfl) (Nat.le_of_ble_eq_true rfl) trivial ?_
          refine wp.mono H ?_
          rintro v w1 ⟨v13, rfl, rfl, H⟩
          show wp 11 77 (84, [some (vr 0), some (vi a1), some (vi a2), some (vi a3)], [vj v13], (Wd S L F10 G11 h)) _
          exact wp.fin (v := some (vj v13)) (by decide) am_m77 rfl ⟨_, rfl, rfl, rfl⟩ H
        · rw [if_neg c9] at H
          refine pt103 (s' := (6, [some (vi a3)], [vi 1, vi a3], (Wd S L F1 G h))) (by decide) [0, 0, 0] rfl ⟨trivial, ⟨g8, c9⟩⟩ ?_
          by_cases c14 : a3 = 1
          · rw [if_pos c14] at H
            refine pt103 (s' := (14, [some (vi a3)], [vi 1], (Wd S L F1 G h))) (by decide) [0, 0, 0] rfl ⟨trivial, ⟨⟨g8, (by decide : R32 1)⟩, c14⟩⟩ ?_
            refine wp.fin (v := some (vi 1)) (by decide) am_m103 rfl ⟨_, rfl, Or.inr ⟨rfl, Or.inr rfl⟩, rfl⟩ ?_
            show wp 11 77 (39, [some (vr 0), some (vi a1), some (vi a2), some (vi a3)], [vi 1], (Wd S L F1 G h)) _
            refine pt77 (s' := (55, [some (vr 0), some (vi a1), some (vi a2), some (vi a3)], [vi a2, vr 1, vr 281], (Wd S L F1 G h))) (by decide) [1, 0, 281, 0, 1, 0] rfl ⟨⟨⟨trivial, ⟨(by decide : R32 1), (by decide : ¬ (1 : Int) = (0 : Int))⟩⟩, ⟨Nat.le_of_ble_eq_true rfl, rfl, hh _ _ _ rfl⟩⟩, ⟨Nat.le_of_ble_eq_true rfl, rfl, hh _ _ _ rfl⟩⟩ ?_
            refine wp.cl am_m77 rfl am_m9 8 [vr 281, vr 1, vi a2] [] rfl (Nat.le_of_ble_eq_true rfl) ⟨(Nat.le_of_ble_eq_true rfl), (Nat.le_of_ble_eq_true rfl)⟩ rfl (Nat.le_of_ble_eq_true rfl) rfl (Nat.le_of_ble_eq_true rfl) (Nat.le_of_ble_eq_true rfl) ⟨_, _, rfl, Nat.le_of_ble_eq_true rfl, rfl⟩ ?_
            refine wp.mono H ?_
            rintro v w1 ⟨F15, G16, rfl, rfl, H⟩
            show wp 11 77 (58, [some (vr 0), some (vi a1), some (vi a2), some (vi a3)], [], (Wd S L F15 G16 h)) _
            refine pt77 (s' := (74, [some (vr 0), some (vi a1), some (vi a2), some (vi a3)], [vi (F15 1 9), vi a1, vr 275, vr 281], (Wd S L F15 G16 h))) (by decide) [0, 281, 0, 275, 0, 0, 1, 0] rfl ⟨⟨⟨⟨trivial, ⟨Nat.le_of_ble_eq_true rfl, rfl, hh _ _ _ rfl⟩⟩, ⟨Nat.le_of_ble_eq_true rfl, rfl, hh _ _ _ rfl⟩⟩, ⟨Nat.le_of_ble_eq_true rfl, rfl, hh _ _ _ rfl⟩⟩, ⟨Nat.le_of_ble_eq_true rfl, rfl⟩⟩ ?_
            refine wp.cl am_m77 rfl am_m11 7 [vr 281, vr 275, vi a1, vi (F15 1 9)] [] rfl (Nat.le_of_ble_eq_true rfl) ⟨(Nat.le_of_ble_eq_true rfl), (Nat.le_of_ble_eq_true rfl)⟩ rfl (Nat.le_of_ble_eq_true rfl) rfl (Nat.le_of_ble_eq_true rfl) (Nat.le_of_ble_eq_true rfl) ⟨_, _, rfl, Nat.le_of_ble_eq_true rfl, rfl⟩ ?_
            refine wp.mono H ?_
            rintro v w1 ⟨v17, rfl, rfl, H⟩
            show wp 11 77 (77, [some (vr 0), some (vi a1), some (vi a2), some (vi a3)], [vj v17], (Wd S L F15 G16 h)) _
            refine pt77 (s' := (81, [some (vr 0), some (vi a1), some (vi a2), some (vi a3)], [vi a3, vj 151351200, vj v17], (Wd S L F15 G16 h))) (by decide) [0, 0] rfl trivial ?_
            refine wp.cl am_m77 rfl am_m105 7 [vj v17, vj 151351200, vi a3] [] rfl (Nat.le_of_ble_eq_true rfl) ⟨(Nat.le_of_ble_eq_true rfl), (Nat.le_of_ble_eq_true rfl)⟩ rfl (Nat.le_of_ble_eq_true rfl) rfl (Nat.le_of_ble_eq_true rfl) (Nat.le_of_ble_eq_true rfl) trivial ?_
            refine wp.mono H ?_
            rintro v w1 ⟨v18, rfl, rfl, H⟩
            show wp 11 77 (84, [some (vr 0), some (vi a1), some (vi a2), some (vi a3)], [vj v18], (Wd S L F15 G16 h)) _
            exact wp.fin (v := some (vj v18)) (by decide) am_m77 rfl ⟨_, rfl, rfl, rfl⟩ H
          · rw [if_neg c14] at H
            refine pt103 (s' := (14, [some (vi a3)], [vi 0], (Wd S L F1 G h))) (by decide) [1, 0] rfl ⟨trivial, ⟨⟨g8, (by decide : R32 1)⟩, c14⟩⟩ ?_
            refine wp.fin (v := some (vi 0)) (by decide) am_m103 rfl ⟨_, rfl, Or.inr ⟨rfl, Or.inl rfl⟩, rfl⟩ ?_
            show wp 11 77 (39, [some (vr 0), some (vi a1), some (vi a2), some (vi a3)], [vi 0], (Wd S L F1 G h)) _
            refine pt77 (s' := (45, [some (vr 0), some (vi a1), some (vi a2), some (vi a3)], [vj (-1)], (Wd S L F1 G h))) (by decide) [0, 0] rfl ⟨trivial, ⟨(by decide : R32 0), (by decide : (0 : Int) = (0 : Int))⟩⟩ ?_
            exact wp.fin (v := some (vj (-1))) (by decide) am_m77 rfl ⟨_, rfl, rfl, rfl⟩ H
      · rw [if_neg c7] at H
        refine pt102 (s' := (6, [some (vi a2)], [vi 1, vi a2], (Wd S L F1 G h))) (by decide) [0, 0, 0] rfl ⟨trivial, ⟨g6, c7⟩⟩ ?_
        by_cases c19 : a2 = 1
        · rw [if_pos c19] at H
          refine pt102 (s' := (14, [some (vi a2)], [vi 1], (Wd S L F1 G h))) (by decide) [0, 0, 0] rfl ⟨trivial, ⟨⟨g6, (by decide : R32 1)⟩, c19⟩⟩ ?_
          refine wp.fin (v := some (vi 1)) (by decide) am_m102 rfl ⟨_, rfl, Or.inr ⟨rfl, Or.inr rfl⟩, rfl⟩ ?_
          show wp 11 77 (32, [some (vr 0), some (vi a1), some (vi a2), some (vi a3)], [vi 1], (Wd S L F1 G h)) _
          refine pt77 (s' := (36, [some (vr 0), some (vi a1), some (vi a2), some (vi a3)], [vi a3], (Wd S L F1 G h))) (by decide) [0, 0] rfl ⟨trivial, ⟨(by decide : R32 1), (by decide : ¬ (1 : Int) = (0 : Int))⟩⟩ ?_
          refine wp.cl am_m77 rfl am_m103 6 [vi a3] [] rfl (Nat.le_of_ble_eq_true rfl) ⟨(Nat.le_of_ble_eq_true rfl), (Nat.le_of_ble_eq_true rfl)⟩ rfl (Nat.le_of_ble_eq_true rfl) rfl (Nat.le_of_ble_eq_true rfl) (Nat.le_of_ble_eq_true rfl) trivial ?_
          obtain ⟨g20, H⟩ := H
          refine pt103 (s' := (1, [some (vi a3)], [vi a3], (Wd S L F1 G h))) (by decide) [0] rfl trivial ?_
          by_cases c21 : a3 = 0
          · rw [if_pos c21] at H
            refine pt103 (s' := (14, [some (vi a3)], [vi 1], (Wd S L F1 G h))) (by decide) [1, 0, 0] rfl ⟨trivial, ⟨g20, c21⟩⟩ ?_
            refine wp.fin (v := some (vi 1)) (by decide) am_m103 rfl ⟨_, rfl, Or.inr ⟨rfl, Or.inr rfl⟩, rfl⟩ ?_
            show wp 11 77 (39, [some (vr 0), some (vi a1), some (vi a2), some (vi a3)], [vi 1], (Wd S L F1 G h)) _
            refine pt77 (s' := (55, [some (vr 0), some (vi a1), some (vi a2), some (vi a3)], [vi a2, vr 1, vr 281], (Wd S L F1 G h))) (by decide) [1, 0, 281, 0, 1, 0] rfl ⟨⟨⟨trivial, ⟨(by decide : R32 1), (by decide : ¬ (1 : Int) = (0 : Int))⟩⟩, ⟨Nat.le_of_ble_eq_true rfl, rfl, hh _ _ _ rfl⟩⟩, ⟨Nat.le_of_ble_eq_true rfl, rfl, hh _ _ _ rfl⟩⟩ ?_
            refine wp.cl am_m77 rfl am_m9 8 [vr 281, vr 1, vi a2] [] rfl (Nat.le_of_ble_eq_true rfl) ⟨(Nat.le_of_ble_eq_true rfl), (Nat.le_of_ble_eq_true rfl)⟩ rfl (Nat.le_of_ble_eq_true rfl) rfl (Nat.le_of_ble_eq_true rfl) (Nat.le_of_ble_eq_true rfl) ⟨_, _, rfl, Nat.le_of_ble_eq_true rfl, rfl⟩ ?_
            refine wp.mono H ?_
            rintro v w1 ⟨F22, G23, rfl, rfl, H⟩
            show wp 11 77 (58, [some (vr 0), some (vi a1), some (vi a2), some (vi a3)], [], (Wd S L F22 G23 h)) _
            refine pt77 (s' := (74, [some (vr 0), some (vi a1), some (vi a2), some (vi a3)], [vi (F22 1 9), vi a1, vr 275, vr 281], (Wd S L F22 G23 h))) (by decide) [0, 281, 0, 275, 0, 0, 1, 0] rfl ⟨⟨⟨⟨trivial, ⟨Nat.le_of_ble_eq_true rfl, rfl, hh _ _ _ rfl⟩⟩, ⟨Nat.le_of_ble_eq_true rfl, rfl, hh _ _ _ rfl⟩⟩, ⟨Nat.le_of_ble_eq_true rfl, rfl, hh _ _ _ rfl⟩⟩, ⟨Nat.le_of_ble_eq_true rfl, rfl⟩⟩ ?_
            refine wp.cl am_m77 rfl am_m11 7 [vr 281, vr 275, vi a1, vi (F22 1 9)] [] rfl (Nat.le_of_ble_eq_true rfl) ⟨(Nat.le_of_ble_eq_true rfl), (Nat.le_of_ble_eq_true rfl)⟩ rfl (Nat.le_of_ble_eq_true rfl) rfl (Nat.le_of_ble_eq_true rfl) (Nat.le_of_ble_eq_true rfl) ⟨_, _, rfl, Nat.le_of_ble_eq_true rfl, rfl⟩ ?_
            refine wp.mono H ?_
            rintro v w1 ⟨v24, rfl, rfl, H⟩
            show wp 11 77 (77, [some (vr 0), some (vi a1), some (vi a2), some (vi a3)], [vj v24], (Wd S L F22 G23 h)) _
            refine pt77 (s' := (81, [some (vr 0), some (vi a1), some (vi a2), some (vi a3)], [vi a3, vj 151351200, vj v24], (Wd S L F22 G23 h))) (by decide) [0, 0] rfl trivial ?_
            refine wp.cl am_m77 rfl am_m105 7 [vj v24, vj 151351200, vi a3] [] rfl (Nat.le_of_ble_eq_true rfl) ⟨(Nat.le_of_ble_eq_true rfl), (Nat.le_of_ble_eq_true rfl)⟩ rfl (Nat.le_of_ble_eq_true rfl) rfl (Nat.le_of_ble_eq_true rfl) (Nat.le_of_ble_eq_true rfl) trivial ?_
            refine wp.mono H ?_
            rintro v w1 ⟨v25, rfl, rfl, H⟩
            show wp 11 77 (84, [some (vr 0), some (vi a1), some (vi a2), some (vi a3)], [vj v25], (Wd S L F22 G23 h)) _
            exact wp.fin (v := some (vj v25)) (by decide) am_m77 rfl ⟨_, rfl, rfl, rfl⟩ H
          · rw [if_neg c21] at H
            refine pt103 (s' := (6, [some (vi a3)], [vi 1, vi a3], (Wd S L F1 G h))) (by decide) [0, 0, 0] rfl ⟨trivial, ⟨g20, c21⟩⟩ ?_
            by_cases c26 : a3 = 1
            · rw [if_pos c26] at H
              refine pt103 (s' := (14, [some (vi a3)], [vi 1], (Wd S L F1 G h))) (by decide) [0, 0, 0] rfl ⟨trivial, ⟨⟨g20, (by decide : R32 1)⟩, c26⟩⟩ ?_
              refine wp.fin (v := some (vi 1)) (by decide) am_m103 rfl ⟨_, rfl, Or.inr ⟨rfl, Or.inr rfl⟩, rfl⟩ ?_
              show wp 11 77 (39, [some (vr 0), some (vi a1), some (vi a2), some (vi a3)], [vi 1], (Wd S L F1 G h)) _
              refine pt77 (s' := (55, [some (vr 0), some (vi a1), some (vi a2), some (vi a3)], [vi a2, vr 1, vr 281], (Wd S L F1 G h))) (by decide) [1, 0, 281, 0, 1, 0] rfl ⟨⟨⟨trivial, ⟨(by decide : R32 1), (by decide : ¬ (1 : Int) = (0 : Int))⟩⟩, ⟨Nat.le_of_ble_eq_true rfl, rfl, hh _ _ _ rfl⟩⟩, ⟨Nat.le_of_ble_eq_true rfl, rfl, hh _ _ _ rfl⟩⟩ ?_
              refine wp.cl am_m77 rfl am_m9 8 [vr 281, vr 1, vi a2] [] rfl (Nat.le_of_ble_eq_true rfl) ⟨(Nat.le_of_ble_eq_true rfl), (Nat.le_of_ble_eq_true rfl)⟩ rfl (Nat.le_of_ble_eq_true rfl) rfl (Nat.le_of_ble_eq_true rfl) (Nat.le_of_ble_eq_true rfl) ⟨_, _, rfl, Nat.le_of_ble_eq_true rfl, rfl⟩ ?_
              refine wp.mono H ?_
              rintro v w1 ⟨F27, G28, rfl, rfl, H⟩
              show wp 11 77 (58, [some (vr 0), some (vi a1), some (vi a2), some (vi a3)], [], (Wd S L F27 G28 h)) _
              refine pt77 (s' := (74, [some (vr 0), some (vi a1), some (vi a2), some (vi a3)], [vi (F27 1 9), vi a1, vr 275, vr 281], (Wd S L F27 G28 h))) (by decide) [0, 281, 0, 275, 0, 0, 1, 0] rfl ⟨⟨⟨⟨trivial, ⟨Nat.le_of_ble_eq_true rfl, rfl, hh _ _ _ rfl⟩⟩, ⟨Nat.le_of_ble_eq_true rfl, rfl, hh _ _ _ rfl⟩⟩, ⟨Nat.le_of_ble_eq_true rfl, rfl, hh _ _ _ rfl⟩⟩, ⟨Nat.le_of_ble_eq_true rfl, rfl⟩⟩ ?_
              refine wp.cl am_m77 rfl am_m11 7 [vr 281, vr 275, vi a1, vi (F27 1 9)] [] rfl (Nat.le_of_ble_eq_true rfl) ⟨(Nat.le_of_ble_eq_true rfl), (Nat.le_of_ble_eq_true rfl)⟩ rfl (Nat.le_of_ble_eq_true rfl) rfl (Nat.le_of_ble_eq_true rfl) (Nat.le_of_ble_eq_true rfl) ⟨_, _, rfl, Nat.le_of_ble_eq_true rfl, rfl⟩ ?_
              refine wp.mono H ?_
              rintro v w1 ⟨v29, rfl, rfl, H⟩
              show wp 11 77 (77, [some (vr 0), some (vi a1), some (vi a2), some (vi a3)], [vj v29], (Wd S L F27 G28 h)) _
              refine pt77 (s' := (81, [some (vr 0), some (vi a1), some (vi a2), some (vi a3)], [vi a3, vj 151351200, vj v29], (Wd S L F27 G28 h))) (by decide) [0, 0] rfl trivial ?_
              refine wp.cl am_m77 rfl am_m105 7 [vj v29, vj 151351200, vi a3] [] rfl (Nat.le_of_ble_eq_true rfl) ⟨(Nat.le_of_ble_eq_true rfl), (Nat.le_of_ble_eq_true rfl)⟩ rfl (Nat.le_of_ble_eq_true rfl) rfl (Nat.le_of_ble_eq_true rfl) (Nat.le_of_ble_eq_true rfl) trivial ?_
              refine wp.mono H ?_
              rintro v w1 ⟨v30, rfl, rfl, H⟩
              show wp 11 77 (84, [some (vr 0), some (vi a1), some (vi a2), some (vi a3)], [vj v30], (Wd S L F27 G28 h)) _
              exact wp.fin (v := some (vj v30)) (by decide) am_m77 rfl ⟨_, rfl, rfl, rfl⟩ H
            · rw [if_neg c26] at H
              refine pt103 (s' := (14, [some (vi a3)], [vi 0], (Wd S L F1 G h))) (by decide) [1, 0] rfl ⟨trivial, ⟨⟨g20, (by decide : R32 1)⟩, c26⟩⟩ ?_
              refine wp.fin (v := some (vi 0)) (by decide) am_m103 rfl ⟨_, rfl, Or.inr ⟨rfl, Or.inl rfl⟩, rfl⟩ ?_
              show wp 11 77 (39, [some (vr 0), some (vi a1), some (vi a2), some (vi a3)], [vi 0], (Wd S L F1 G h)) _
              refine pt77 (s' := (45, [some (vr 0), some (vi a1), some (vi a2), some (vi a3)], [vj (-1)], (Wd S L F1 G h))) (by decide) [0, 0] rfl ⟨trivial, ⟨(by decide : R32 0), (by decide : (0 : Int) = (0 : Int))⟩⟩ ?_
              exact wp.fin (v := some (vj (-1))) (by decide) am_m77 rfl ⟨_, rfl, rfl, rfl⟩ H
        · rw [if_neg c19] at H
          refine pt102 (s' := (14, [some (vi a2)], [vi 0], (Wd S L F1 G h))) (by decide) [1, 0] rfl ⟨trivial, ⟨⟨g6, (by decide : R32 1)⟩, c19⟩⟩ ?_
          refine wp.fin (v := some (vi 0)) (by decide) am_m102 rfl ⟨_, rfl, Or.inr ⟨rfl, Or.inl rfl⟩, rfl⟩ ?_
          show wp 11 77 (32, [some (vr 0), some (vi a1), some (vi a2), some (vi a3)], [vi 0], (Wd S L F1 G h)) _
          refine pt77 (s' := (45, [some (vr 0), some (vi a1), some (vi a2), some (vi a3)], [vj (-1)], (Wd S L F1 G h))) (by decide) [1, 0] rfl ⟨trivial, ⟨(by decide : R32 0), (by decide : (0 : Int) = (0 : Int))⟩⟩ ?_
          exact wp.fin (v := some (vj (-1))) (by decide) am_m77 rfl ⟨_, rfl, rfl, rfl⟩ H
set_option maxRecDepth 100000 in
set_option maxHeartbeats 4000000 in
theorem T78_0 {S L : Nat} {F G : Nat → Nat → Int} {h : Nat → Nat → Option Nat} (hh : RfH h) {a1 : Int} {a2 : Int}  {Q : Option V2 → W2 → Prop}
    (H : (R32 a1 ∧
 (if a1 = 0 then
  (R32 a2 ∧
  (if a2 = 0 then
   C1_0  (Wd S L F G h) (fun v w1 => ∃ (F5 : Nat → Nat → Int), v = none ∧ w1 = (Wd S L F5 G h) ∧
    C9_0 a1 (Wd S L F5 G h) (fun v w1 => ∃ (F6 : Nat → Nat → Int) (G7 : Nat → Nat → Int), v = none ∧ w1 = (Wd S L F6 G7 h) ∧
     C12_0 (F6 1 9) (Wd S L F6 G7 h) (fun v w1 => ∃ (v8 : Int), v = some (vj v8) ∧ w1 = (Wd S L F6 G7 h) ∧
      C105_0 v8 151351200 a2 (Wd S L F6 G7 h) (fun v w1 => ∃ (v9 : Int), v = some (vj v9) ∧ w1 = (Wd S L F6 G7 h) ∧
       Q (some (vj v9)) (Wd S L F6 G7 h)))))
  else
   (if a2 = 1 then
    C1_0  (Wd S L F G h) (fun v w1 => ∃ (F11 : Nat → Nat → Int), v = none ∧ w1 = (Wd S L F11 G h) ∧
     C9_0 a1 (Wd S L F11 G h) (fun v w1 => ∃ (F12 : Nat → Nat → Int) (G13 : Nat → Nat → Int), v = none ∧ w1 = (Wd S L F12 G13 h) ∧
      C12_0 (F12 1 9) (Wd S L F12 G13 h) (fun v w1 => ∃ (v14 : Int), v = some (vj v14) ∧ w1 = (Wd S L F12 G13 h) ∧
       C105_0 v14 151351200 a2 (Wd S L F12 G13 h) (fun v w1 => ∃ (v15 : Int), v = some (vj v15) ∧ w1 = (Wd S L F12 G13 h) ∧
        Q (some (vj v15)) (Wd S L F12 G13 h)))))
   else
    Q (some (vj (-1))) (Wd S L F G h))))
 else
  (if a1 = 1 then
   (R32 a2 ∧
   (if a2 = 0 then
    C1_0  (Wd S L F G h) (fun v w1 => ∃ (F19 : Nat → Nat → Int), v = none ∧ w1 = (Wd S L F19 G h) ∧
     C9_0 a1 (Wd S L F19 G h) (fun v w1 => ∃ (F20 : Nat → Nat → Int) (G21 : Nat → Nat → Int), v = none ∧ w1 = (Wd S L F20 G21 h) ∧
      C12_0 (F20 1 9) (Wd S L F20 G21 h) (fun v w1 => ∃ (v22 : Int), v = some (vj v22) ∧ w1 = (Wd S L F20 G21 h) ∧
       C105_0 v22 151351200 a2 (Wd S L F20 G21 h) (fun v w1 => ∃ (v23 : Int), v = some (vj v23) ∧ w1 = (Wd S L F20 G21 h) ∧
        Q (some (vj v23)) (Wd S L F20 G21 h)))))
   else
    (if a2 = 1 then
     C1_0  (Wd S L F G h) (fun v w1 => ∃ (F25 : Nat → Nat → Int), v = none ∧ w1 = (Wd S L F25 G h) ∧
      C9_0 a1 (Wd S L F25 G h) (fun v w1 => ∃ (F26 : Nat → Nat → Int) (G27 : Nat → Nat → Int), v = none ∧ w1 = (Wd S L F26 G27 h) ∧
       C12_0 (F26 1 9) (Wd S L F26 G27 h) (fun v w1 => ∃ (v28 : Int), v = some (vj v28) ∧ w1 = (Wd S L F26 G27 h) ∧
        C105_0 v28 151351200 a2 (Wd S L F26 G27 h) (fun v w1 => ∃ (v29 : Int), v = some (vj v29) ∧ w1 = (Wd S L F26 G27 h) ∧
         Q (some (vj v29)) (Wd S L F26 G27 h)))))
    else
     Q (some (vj (-1))) (Wd S L F G h))))
  else
   Q (some (vj (-1))) (Wd S L F G h))))) : C78_0 a1 a2 (Wd S L F G h) Q := by
  refine pt78 (s' := (1, [some (vr 0), some (vi a1), some (vi a2)], [vi a1], (Wd S L F G h))) (by decide) [0] rfl trivial ?_
  refine wp.cl am_m78 rfl am_m102 6 [vi a1] [] rfl (Nat.le_of_ble_eq_true rfl) ⟨(Nat.le_of_ble_eq_true rfl), (Nat.le_of_ble_eq_true rfl)⟩ rfl (Nat.le_of_ble_eq_true rfl) rfl (Nat.le_of_ble_eq_true rfl) (Nat.le_of_ble_eq_true rfl) trivial ?_
  obtain ⟨g1, H⟩ := H
  refine pt102 (s' := (1, [some (vi a1)], [vi a1], (Wd S L F G h))) (by decide) [0] rfl trivial ?_
  by_cases c2 : a1 = 0
  · rw [if_pos c2] at H
    refine pt102 (s' := (14, [some (vi a1)], [vi 1], (Wd S L F G h))) (by decide) [1, 0, 0] rfl ⟨trivial, ⟨g1, c2⟩⟩ ?_
    refine wp.fin (v := some (vi 1)) (by decide) am_m102 rfl ⟨_, rfl, Or.inr ⟨rfl, Or.inr rfl⟩, rfl⟩ ?_
    show wp 11 78 (4, [some (vr 0), some (vi a1), some (vi a2)], [vi 1], (Wd S L F G h)) _
    refine pt78 (s' := (8, [some (vr 0), some (vi a1), some (vi a2)], [vi a2], (Wd S L F G h))) (by decide) [0, 0] rfl ⟨trivial, ⟨(by decide : R32 1), (by decide : ¬ (1 : Int) = (0 : Int))⟩⟩ ?_
    refine wp.cl am_m78 rfl am_m103 6 [vi a2] [] rfl (Nat.le_of_ble_eq_true rfl) ⟨(Nat.le_of_ble_eq_true rfl), (Nat.le_of_ble_eq_true rfl)⟩ rfl (Nat.le_of_ble_eq_true rfl) rfl (Nat.le_of_ble_eq_true rfl) (Nat.le_of_ble_eq_true rfl) trivial ?_
    obtain ⟨g3, H⟩ := H
    refine pt103 (s' := (1, [some (vi a2)], [vi a2], (Wd S L F G h))) (by decide) [0] rfl trivial ?_
    by_cases c4 : a2 = 0
    · rw [if_pos c4] at H
      refine pt103 (s' := (14, [some (vi a2)], [vi 1], (Wd S L F G h))) (by decide) [1, 0, 0] rfl ⟨trivial, ⟨g3, c4⟩⟩ ?_
      refine wp.fin (v := some (vi 1)) (by decide) am_m103 rfl ⟨_, rfl, Or.inr ⟨rfl, Or.inr rfl⟩, rfl⟩ ?_
      show wp 11 78 (11, [some (vr 0), some (vi a1), some (vi a2)], [vi 1], (Wd S L F G h)) _
      refine pt78 (s' := (26, [some (vr 0), some (vi a1), some (vi a2)], [vr 1, vr 275], (Wd S L F G h))) (by decide) [1, 0, 275, 0, 1] rfl ⟨⟨⟨trivial, ⟨(by decide : R32 1), (by decide : ¬ (1 : Int) = (0 : Int))⟩⟩, ⟨Nat.le_of_ble_eq_true rfl, rfl, hh _ _ _ rfl⟩⟩, ⟨Nat.le_of_ble_eq_true rfl, rfl, hh _ _ _ rfl⟩⟩ ?_
      refine wp.cl am_m78 rfl am_m1 10 [vr 275, vr 1] [] rfl (Nat.le_of_ble_eq_true rfl) ⟨(Nat.le_of_ble_eq_true rfl), (Nat.le_of_ble_eq_true rfl)⟩ rfl (Nat.le_of_ble_eq_true rfl) rfl (Nat.le_of_ble_eq_true rfl) (Nat.le_of_ble_eq_true rfl) ⟨_, _, rfl, Nat.le_of_ble_eq_true rfl, rfl⟩ ?_
      refine wp.mono H ?_
      rintro v w1 ⟨F5, rfl, rfl, H⟩
      show wp 11 78 (29, [some (vr 0), some (vi a1), some (vi a2)], [], (Wd S L F5 G h)) _
      refine pt78 (s' := (38, [some (vr 0), some (vi a1), some (vi a2)], [vi a1, vr 1, vr 281], (Wd S L F5 G h))) (by decide) [0, 281, 0, 1, 0] rfl ⟨⟨trivial, ⟨Nat.le_of_ble_eq_true rfl, rfl, hh _ _ _ rfl⟩⟩, ⟨Nat.le_of_ble_eq_true rfl, rfl, hh _ _ _ rfl⟩⟩ ?_
      refine wp.cl am_m78 rfl am_m9 8 [vr 281, vr 1, vi a1] [] rfl (Nat.le_of_ble_eq_true rfl) ⟨(Nat.le_of_ble_eq_true rfl), (Nat.le_of_ble_eq_true rfl)⟩ rfl (Nat.le_of_ble_eq_true rfl) rfl (Nat.le_of_ble_eq_true rfl) (Nat.le_of_ble_eq_true rfl) ⟨_, _, rfl, Nat.le_of_ble_eq_true rfl, rfl⟩ ?_
      refine wp.mono H ?_
      rintro v w1 ⟨F6, G7, rfl, rfl, H⟩
      show wp 11 78 (41, [some (vr 0), some (vi a1), some (vi a2)], [], (Wd S L F6 G7 h)) _
      refine pt78 (s' := (56, [some (vr 0), some (vi a1), some (vi a2)], [vi (F6 1 9), vr 275, vr 281], (Wd S L F6 G7 h))) (by decide) [0, 281, 0, 275, 0, 1, 0] rfl ⟨⟨⟨⟨trivial, ⟨Nat.le_of_ble_eq_true rfl, rfl, hh _ _ _ rfl⟩⟩, ⟨Nat.le_of_ble_eq_true rfl, rfl, hh _ _ _ rfl⟩⟩, ⟨Nat.le_of_ble_eq_true rfl, rfl, hh _ _ _ rfl⟩⟩, ⟨Nat.le_of_ble_eq_true rfl, rfl⟩⟩ ?_
      refine wp.cl am_m78 rfl am_m12 8 [vr 281, vr 275, vi (F6 1 9)] [] rfl (Nat.le_of_ble_eq_true rfl) ⟨(Nat.le_of_ble_eq_true rfl), (Nat.le_of_ble_eq_true rfl)⟩ rfl (Nat.le_of_ble_eq_true rfl) rfl (Nat.le_of_ble_eq_true rfl) (Nat.le_of_ble_eq_true rfl) ⟨_, _, rfl, Nat.le_of_ble_eq_true rfl, rfl⟩ ?_
      refine wp.mono H ?_
      rintro v w1 ⟨v8, rfl, rfl, H⟩
      show wp 11 78 (59, [some (vr 0), some (vi a1), some (vi a2)], [vj v8], (Wd S L F6 G7 h)) _
      refine pt78 (s' := (63, [some (vr 0), some (vi a1), some (vi a2)], [vi a2, vj 151351200, vj v8], (Wd S L F6 G7 h))) (by decide) [0, 0] rfl trivial ?_
      refine wp.cl am_m78 rfl am_m105 7 [vj v8, vj 151351200, vi a2] [] rfl (Nat.le_of_ble_eq_true rfl) ⟨(Nat.le_of_ble_eq_true rfl), (Nat.le_of_ble_eq_true rfl)⟩ rfl (Nat.le_of_ble_eq_true rfl) rfl (Nat.le_of_ble_eq_true rfl) (Nat.le_of_ble_eq_true rfl) trivial ?_
      refine wp.mono H ?_
      rintro v w1 ⟨v9, rfl, rfl, H⟩
      show wp 11 78 (66, [some (vr 0), some (vi a1), some (vi a2)], [vj v9], (Wd S L F6 G7 h)) _
      exact wp.fin (v := some (vj v9)) (by decide) am_m78 rfl ⟨_, rfl, rfl, rfl⟩ H
    · rw [if_neg c4] at H
      refine pt103 (s' := (6, [some (vi a2)], [vi 1, vi a2], (Wd S L F G h))) (by decide) [0, 0, 0] rfl ⟨trivial, ⟨g3, c4⟩⟩ ?_
      by_cases c10 : a2 = 1
      · rw [if_pos c10] at H
        refine pt103 (s' := (14, [some (vi a2)], [vi 1], (Wd S L F G h))) (by decide) [0, 0, 0] rfl ⟨trivial, ⟨⟨g3, (by decide : R32 1)⟩, c10⟩⟩ ?_
        refine wp.fin (v := some (vi 1)) (by decide) am_m103 rfl ⟨_, rfl, Or.inr ⟨rfl, Or.inr rfl⟩, rfl⟩ ?_
        show wp 11 78 (11, [some (vr 0), some (vi a1), some (vi a2)], [vi 1], (Wd S L F G h)) _
        refine pt78 (s' := (26, [some (vr 0), some (vi a1), some (vi a2)], [vr 1, vr 275], (Wd S L F G h))) (by decide) [1, 0, 275, 0, 1] rfl ⟨⟨⟨trivial, ⟨(by decide : R32 1), (by decide : ¬ (1 : Int) = (0 : Int))⟩⟩, ⟨Nat.le_of_ble_eq_true rfl, rfl, hh _ _ _ rfl⟩⟩, ⟨Nat.le_of_ble_eq_true rfl, rfl, hh _ _ _ rfl⟩⟩ ?_
        refine wp.cl am_m78 rfl am_m1 10 [vr 275, vr 1] [] rfl (Nat.le_of_ble_eq_true rfl) ⟨(Nat.le_of_ble_eq_true rfl), (Nat.le_of_ble_eq_true rfl)⟩ rfl (Nat.le_of_ble_eq_true rfl) rfl (Nat.le_of_ble_eq_true rfl) (Nat.le_of_ble_eq_true rfl) ⟨_, _, rfl, Nat.le_of_ble_eq_true rfl, rfl⟩ ?_
        refine wp.mono H ?_
        rintro v w1 ⟨F11, rfl, rfl, H⟩
        show wp 11 78 (29, [some (vr 0), some (vi a1), some (vi a2)], [], (Wd S L F11 G h)) _
        refine pt78 (s' := (38, [some (vr 0), some (vi a1), some (vi a2)], [vi a1, vr 1, vr 281], (Wd S L F11 G h))) (by decide) [0, 281, 0, 1, 0] rfl ⟨⟨trivial, ⟨Nat.le_of_ble_eq_true rfl, rfl, hh _ _ _ rfl⟩⟩, ⟨Nat.le_of_ble_eq_true rfl, rfl, hh _ _ _ rfl⟩⟩ ?_
        refine wp.cl am_m78 rfl am_m9 8 [vr 281, vr 1, vi a1] [] rfl (Nat.le_of_ble_eq_true rfl) ⟨(Nat.le_of_ble_eq_true rfl), (Nat.le_of_ble_eq_true rfl)⟩ rfl (Nat.le_of_ble_eq_true rfl) rfl (Nat.le_of_ble_eq_true rfl) (Nat.le_of_ble_eq_true rfl) ⟨_, _, rfl, Nat.le_of_ble_eq_true rfl, rfl⟩ ?_
        refine wp.mono H ?_
        rintro v w1 ⟨F12, G13, rfl, rfl, H⟩
        show wp 11 78 (41, [some (vr 0), some (vi a1), some (vi a2)], [], (Wd S L F12 G13 h)) _
        refine pt78 (s' := (56, [some (vr 0), some (vi a1), some (vi a2)], [vi (F12 1 9), vr 275, vr 281], (Wd S L F12 G13 h))) (by decide) [0, 281, 0, 275, 0, 1, 0] rfl ⟨⟨⟨⟨trivial, ⟨Nat.le_of_ble_eq_true rfl, rfl, hh _ _ _ rfl⟩⟩, ⟨Nat.le_of_ble_eq_true rfl, rfl, hh _ _ _ rfl⟩⟩, ⟨Nat.le_of_ble_eq_true rfl, rfl, hh _ _ _ rfl⟩⟩, ⟨Nat.le_of_ble_eq_true rfl, rfl⟩⟩ ?_
        refine wp.cl am_m78 rfl am_m12 8 [vr 281, vr 275, vi (F12 1 9)] [] rfl (Nat.le_of_ble_eq_true rfl) ⟨(Nat.le_of_ble_eq_true rfl), (Nat.le_of_ble_eq_true rfl)⟩ rfl (Nat.le_of_ble_eq_true rfl) rfl (Nat.le_of_ble_eq_true rfl) (Nat.le_of_ble_eq_true rfl) ⟨_, _, rfl, Nat.le_of_ble_eq_true rfl, rfl⟩ ?_
        refine wp.mono H ?_
        rintro v w1 ⟨v14, rfl, rfl, H⟩
        show wp 11 78 (59, [some (vr 0), some (vi a1), some (vi a2)], [vj v14], (Wd S L F12 G13 h)) _
        refine pt78 (s' := (63, [some (vr 0), some (vi a1), some (vi a2)], [vi a2, vj 151351200, vj v14], (Wd S L F12 G13 h))) (by decide) [0, 0] rfl trivial ?_
        refine wp.cl am_m78 rfl am_m105 7 [vj v14, vj 151351200, vi a2] [] rfl (Nat.le_of_ble_eq_true rfl) ⟨(Nat.le_of_ble_eq_true rfl), (Nat.le_of_ble_eq_true rfl)⟩ rfl (Nat.le_of_ble_eq_true rfl) rfl (Nat.le_of_ble_eq_true rfl) (Nat.le_of_ble_eq_true rfl) trivial ?_
        refine wp.mono H ?_
        rintro v w1 ⟨v15, rfl, rfl, H⟩
        show wp 11 78 (66, [some (vr 0), some (vi a1), some (vi a2)], [vj v15], (Wd S L F12 G13 h)) _
        exact wp.fin (v := some (vj v15)) (by decide) am_m78 rfl ⟨_, rfl, rfl, rfl⟩ H
      · rw [if_neg c10] at H
        refine pt103 (s' := (14, [some (vi a2)], [vi 0], (Wd S L F G h))) (by decide) [1, 0] rfl ⟨trivial, ⟨⟨g3, (by decide : R32 1)⟩, c10⟩⟩ ?_
        refine wp.fin (v := some (vi 0)) (by decide) am_m103 rfl ⟨_, rfl, Or.inr ⟨rfl, Or.inl rfl⟩, rfl⟩ ?_
        show wp 11 78 (11, [some (vr 0), some (vi a1), some (vi a2)], [vi 0], (Wd S L F G h)) _
        refine pt78 (s' := (17, [some (vr 0), some (vi a1), some (vi a2)], [vj (-1)], (Wd S L F G h))) (by decide) [0, 0] rfl ⟨trivial, ⟨(by decide : R32 0), (by decide : (0 : Int) = (0 : Int))⟩⟩ ?_
        exact wp.fin (v := some (vj (-1))) (by decide) am_m78 rfl ⟨_, rfl, rfl, rfl⟩ H
  · rw [if_neg c2] at H
    refine pt102 (s' := (6, [some (vi a1)], [vi 1, vi a1], (Wd S L F G h))) (by decide) [0, 0, 0] rfl ⟨trivial, ⟨g1, c2⟩⟩ ?_
    by_cases c16 : a1 = 1
    · rw [if_pos c16] at H
      refine pt102 (s' := (14, [some (vi a1)], [vi 1], (Wd S L F G h))) (by decide) [0, 0, 0] rfl ⟨trivial, ⟨⟨g1, (by decide : R32 1)⟩, c16⟩⟩ ?_
      refine wp.fin (v := some (vi 1)) (by decide) am_m102 rfl ⟨_, rfl, Or.inr ⟨rfl, Or.inr rfl⟩, rfl⟩ ?_
      show wp 11 78 (4, [some (vr 0), some (vi a1), some (vi a2)], [vi 1], (Wd S L F G h)) _
      refine pt78 (s' := (8, [some (vr 0), some (vi a1), some (vi a2)], [vi a2], (Wd S L F G h))) (by decide) [0, 0] rfl ⟨trivial, ⟨(by decide : R32 1), (by decide : ¬ (1 : Int) = (0 : Int))⟩⟩ ?_
      refine wp.cl am_m78 rfl am_m103 6 [vi a2] [] rfl (Nat.le_of_ble_eq_true rfl) ⟨(Nat.le_of_ble_eq_true rfl), (Nat.le_of_ble_eq_true rfl)⟩ rfl (Nat.le_of_ble_eq_true rfl) rfl (Nat.le_of_ble_eq_true rfl) (Nat.le_of_ble_eq_true rfl) trivial ?_
      obtain ⟨g17, H⟩ := H
      refine pt103 (s' := (1, [some (vi a2)], [vi a2], (Wd S L F G h))) (by decide) [0] rfl trivial ?_
      by_cases c18 : a2 = 0
      · rw [if_pos c18] at H
        refine pt103 (s' := (14, [some (vi a2)], [vi 1], (Wd S L F G h))) (by decide) [1, 0, 0] rfl ⟨trivial, ⟨g17, c18⟩⟩ ?_
        refine wp.fin (v := some (vi 1)) (by decide) am_m103 rfl ⟨_, rfl, Or.inr ⟨rfl, Or.inr rfl⟩, rfl⟩ ?_
        show wp 11 78 (11, [some (vr 0), some (vi a1), some (vi a2)], [vi 1], (Wd S L F G h)) _
        refine pt78 (s' := (26, [some (vr 0), some (vi a1), some (vi a2)], [vr 1, vr 275], (Wd S L F G h))) (by decide) [1, 0, 275, 0, 1] rfl ⟨⟨⟨trivial, ⟨(by decide : R32 1), (by decide : ¬ (1 : Int) = (0 : Int))⟩⟩, ⟨Nat.le_of_ble_eq_true rfl, rfl, hh _ _ _ rfl⟩⟩, ⟨Nat.le_of_ble_eq_true rfl, rfl, hh _ _ _ rfl⟩⟩ ?_
        refine wp.cl am_m78 rfl am_m1 10 [vr 275, vr 1] [] rfl (Nat.le_of_ble_eq_true rfl) ⟨(Nat.le_of_ble_eq_true rfl), (Nat.le_of_ble_eq_true rfl)⟩ rfl (Nat.le_of_ble_eq_true rfl) rfl (Nat.le_of_ble_eq_true rfl) (Nat.le_of_ble_eq_true rfl) ⟨_, _, rfl, Nat.le_of_ble_eq_true rfl, rfl⟩ ?_
        refine wp.mono H ?_
        rintro v w1 ⟨F19, rfl, rfl, H⟩
        show wp 11 78 (29, [some (vr 0), some (vi a1), some (vi a2)], [], (Wd S L F19 G h)) _
        refine pt78 (s' := (38, [some (vr 0), some (vi a1), some (vi a2)], [vi a1, vr 1, vr 281], (Wd S L F19 G h))) (by decide) [0, 281, 0, 1, 0] rfl ⟨⟨trivial, ⟨Nat.le_of_ble_eq_true rfl, rfl, hh _ _ _ rfl⟩⟩, ⟨Nat.le_of_ble_eq_true rfl, rfl, hh _ _ _ rfl⟩⟩ ?_
        refine wp.cl am_m78 rfl am_m9 8 [vr 281, vr 1, vi a1] [] rfl (Nat.le_of_ble_eq_true rfl) ⟨(Nat.le_of_ble_eq_true rfl), (Nat.le_of_ble_eq_true rfl)⟩ rfl (Nat.le_of_ble_eq_true rfl) rfl (Nat.le_of_ble_eq_true rfl) (Nat.le_of_ble_eq_true rfl) ⟨_, _, rfl, Nat.le_of_ble_eq_true rfl, rfl⟩ ?_
        refine wp.mono H ?_
        rintro v w1 ⟨F20, G21, rfl, rfl, H⟩
        show wp 11 78 (41, [some (vr 0), some (vi a1), some (vi a2)], [], (Wd S L F20 G21 h)) _
        refine pt78 (s' := (56, [some (vr 0), some (vi a1), some (vi a2)], [vi (F20 1 9), vr 275, vr 281], (Wd S L F20 G21 h))) (by decide) [0, 281, 0, 275, 0, 1, 0] rfl ⟨⟨⟨⟨trivial, ⟨Nat.le_of_ble_eq_true rfl, rfl, hh _ _ _ rfl⟩⟩, ⟨Nat.le_of_ble_eq_true rfl, rfl, hh _ _ _ rfl⟩⟩, ⟨Nat.le_of_ble_eq_true rfl, rfl, hh _ _ _ rfl⟩⟩, ⟨Nat.le_of_ble_eq_true rfl, rfl⟩⟩ ?_
        refine wp.cl am_m78 rfl am_m12 8 [vr 281, vr 275, vi (F20 1 9)] [] rfl (Nat.le_of_ble_eq_true rfl) ⟨(Nat.le_of_ble_eq_true rfl), (Nat.le_of_ble_eq_true rfl)⟩ rfl (Nat.le_of_ble_eq_true rfl) rfl (Nat.le_of_ble_eq_true rfl) (Nat.le_of_ble_eq_true rfl) ⟨_, _, rfl, Nat.le_of_ble_eq_true rfl, rfl⟩ ?_
        refine wp.mono H ?_
        rintro v w1 ⟨v22, rfl, rfl, H⟩
        show wp 11 78 (59, [some (vr 0), some (vi a1), some (vi a2)], [vj v22], (Wd S L F20 G21 h)) _
        refine pt78 (s' := (63, [some (vr 0), some (vi a1), some (vi a2)], [vi a2, vj 151351200, vj v22], (Wd S L F20 G21 h))) (by decide) [0, 0] rfl trivial ?_
        refine wp.cl am_m78 rfl am_m105 7 [vj v22, vj 151351200, vi a2] [] rfl (Nat.le_of_ble_eq_true rfl) ⟨(Nat.le_of_ble_eq_true rfl), (Nat.le_of_ble_eq_true rfl)⟩ rfl (Nat.le_of_ble_eq_true rfl) rfl (Nat.le_of_ble_eq_true rfl) (Nat.le_of_ble_eq_true rfl) trivial ?_
        refine wp.mono H ?_
        rintro v w1 ⟨v23, rfl, rfl, H⟩
        show wp 11 78 (66, [some (vr 0), some (vi a1), some (vi a2)], [vj v23], (Wd S L F20 G21 h)) _
        exact wp.fin (v := some (vj v23)) (by decide) am_m78 rfl ⟨_, rfl, rfl, rfl⟩ H
      · rw [if_neg c18] at H
        refine pt103 (s' := (6, [some (vi a2)], [vi 1, vi a2], (Wd S L F G h))) (by decide) [0, 0, 0] rfl ⟨trivial, ⟨g17, c18⟩⟩ ?_
        by_cases c24 : a2 = 1
        · rw [if_pos c24] at H
          refine pt103 (s' := (14, [some (vi a2)], [vi 1], (Wd S L F G h))) (by decide) [0, 0, 0] rfl ⟨trivial, ⟨⟨g17, (by decide : R32 1)⟩, c24⟩⟩ ?_
          refine wp.fin (v := some (vi 1)) (by decide) am_m103 rfl ⟨_, rfl, Or.inr ⟨rfl, Or.inr rfl⟩, rfl⟩ ?_
          show wp 11 78 (11, [some (vr 0), some (vi a1), some (vi a2)], [vi 1], (Wd S L F G h)) _
          refine pt78 (s' := (26, [some (vr 0), some (vi a1), some (vi a2)], [vr 1, vr 275], (Wd S L F G h))) (by decide) [1, 0, 275, 0, 1] rfl ⟨⟨⟨trivial, ⟨(by decide : R32 1), (by decide : ¬ (1 : Int) = (0 : Int))⟩⟩, ⟨Nat.le_of_ble_eq_true rfl, rfl, hh _ _ _ rfl⟩⟩, ⟨Nat.le_of_ble_eq_true rfl, rfl, hh _ _ _ rfl⟩⟩ ?_
          refine wp.cl am_m78 rfl am_m1 10 [vr 275, vr 1] [] rfl (Nat.le_of_ble_eq_true rfl) ⟨(Nat.le_of_ble_eq_true rfl), (Nat.le_of_ble_eq_true rfl)⟩ rfl (Nat.le_of_ble_eq_true rfl) rfl (Nat.le_of_ble_eq_true rfl) (Nat.le_of_ble_eq_true rfl) ⟨_, _, rfl, Nat.le_of_ble_eq_true rfl, rfl⟩ ?_
          refine wp.mono H ?_
          rintro v w1 ⟨F25, rfl, rfl, H⟩
          show wp 11 78 (29, [some (vr 0), some (vi a1), some (vi a2)], [], (Wd S L F25 G h)) _
          refine pt78 (s' := (38, [some (vr 0), some (vi a1), some (vi a2)], [vi a1, vr 1, vr 281], (Wd S L F25 G h))) (by decide) [0, 281, 0, 1, 0] rfl ⟨⟨trivial, ⟨Nat.le_of_ble_eq_true rfl, rfl, hh _ _ _ rfl⟩⟩, ⟨Nat.le_of_ble_eq_true rfl, rfl, hh _ _ _ rfl⟩⟩ ?_
          refine wp.cl am_m78 rfl am_m9 8 [vr 281, vr 1, vi a1] [] rfl (Nat.le_of_ble_eq_true rfl) ⟨(Nat.le_of_ble_eq_true rfl), (Nat.le_of_ble_eq_true rfl)⟩ rfl (Nat.le_of_ble_eq_true rfl) rfl (Nat.le_of_ble_eq_true rfl) (Nat.le_of_ble_eq_true rfl) ⟨_, _, rfl, Nat.le_of_ble_eq_true rfl, rfl⟩ ?_
          refine wp.mono H ?_
          rintro v w1 ⟨F26, G27, rfl, rfl, H⟩
          show wp 11 78 (41, [some (vr 0), some (vi a1), some (vi a2)], [], (Wd S L F26 G27 h)) _
          refine pt78 (s' := (56, [some (vr 0), some (vi a1), some (vi a2)], [vi (F26 1 9), vr 275, vr 281], (Wd S L F26 G27 h))) (by decide) [0, 281, 0, 275, 0, 1, 0] rfl ⟨⟨⟨⟨trivial, ⟨Nat.le_of_ble_eq_true rfl, rfl, hh _ _ _ rfl⟩⟩, ⟨Nat.le_of_ble_eq_true rfl, rfl, hh _ _ _ rfl⟩⟩, ⟨Nat.le_of_ble_eq_true rfl, rfl, hh _ _ _ rfl⟩⟩, ⟨Nat.le_of_ble_eq_true rfl, rfl⟩⟩ ?_
          refine wp.cl am_m78 rfl am_m12 8 [vr 281, vr 275, vi (F26 1 9)] [] rfl (Nat.le_of_ble_eq_true rfl) ⟨(Nat.le_of_ble_eq_true rfl), (Nat.le_of_ble_eq_true rfl)⟩ rfl (Nat.le_of_ble_eq_true rfl) rfl (Nat.le_of_ble_eq_true rfl) (Nat.le_of_ble_eq_true rfl) ⟨_, _, rfl, Nat.le_of_ble_eq_true rfl, rfl⟩ ?_
          refine wp.mono H ?_
          rintro v w1 ⟨v28, rfl, rfl, H⟩
          show wp 11 78 (59, [some (vr 0), some (vi a1), some (vi a2)], [vj v28], (Wd S L F26 G27 h)) _
          refine pt78 (s' := (63, [some (vr 0), some (vi a1), some (vi a2)], [vi a2, vj 151351200, vj v28], (Wd S L F26 G27 h))) (by decide) [0, 0] rfl trivial ?_
          refine wp.cl am_m78 rfl am_m105 7 [vj v28, vj 151351200, vi a2] [] rfl (Nat.le_of_ble_eq_true rfl) ⟨(Nat.le_of_ble_eq_true rfl), (Nat.le_of_ble_eq_true rfl)⟩ rfl (Nat.le_of_ble_eq_true rfl) rfl (Nat.le_of_ble_eq_true rfl) (Nat.le_of_ble_eq_true rfl) trivial ?_
          refine wp.mono H ?_
          rintro v w1 ⟨v29, rfl, rfl, H⟩
          show wp 11 78 (66, [some (vr 0), some (vi a1), some (vi a2)], [vj v29], (Wd S L F26 G27 h)) _
          exact wp.fin (v := some (vj v29)) (by decide) am_m78 rfl ⟨_, rfl, rfl, rfl⟩ H
        · rw [if_neg c24] at H
          refine pt103 (s' := (14, [some (vi a2)], [vi 0], (Wd S L F G h))) (by decide) [1, 0] rfl ⟨trivial, ⟨⟨g17, (by decide : R32 1)⟩, c24⟩⟩ ?_
          refine wp.fin (v := some (vi 0)) (by decide) am_m103 rfl ⟨_, rfl, Or.inr ⟨rfl, Or.inl rfl⟩, rfl⟩ ?_
          show wp 11 78 (11, [some (vr 0), some (vi a1), some (vi a2)], [vi 0], (Wd S L F G h)) _
          refine pt78 (s' := (17, [some (vr 0), some (vi a1), some (vi a2)], [vj (-1)], (Wd S L F G h))) (by decide) [0, 0] rfl ⟨trivial, ⟨(by decide : R32 0), (by decide : (0 : Int) = (0 : Int))⟩⟩ ?_
          exact wp.fin (v := some (vj (-1))) (by decide) am_m78 rfl ⟨_, rfl, rfl, rfl⟩ H
    · rw [if_neg c16] at H
      refine pt102 (s' := (14, [some (vi a1)], [vi 0], (Wd S L F G h))) (by decide) [1, 0] rfl ⟨trivial, ⟨⟨g1, (by decide : R32 1)⟩, c16⟩⟩ ?_
      refine wp.fin (v := some (vi 0)) (by decide) am_m102 rfl ⟨_, rfl, Or.inr ⟨rfl, Or.inl rfl⟩, rfl⟩ ?_
      show wp 11 78 (4, [some (vr 0), some (vi a1), some (vi a2)], [vi 0], (Wd S L F G h)) _
      refine pt78 (s' := (17, [some (vr 0), some (vi a1), some (vi a2)], [vj (-1)], (Wd S L F G h))) (by decide) [1, 0] rfl ⟨trivial, ⟨(by decide : R32 0), (by decide : (0 : Int) = (0 : Int))⟩⟩ ?_
      exact wp.fin (v := some (vj (-1))) (by decide) am_m78 rfl ⟨_, rfl, rfl, rfl⟩ H
set_option maxRecDepth 100000 in
set_option maxHeartbeats 4000000 in
theorem T79_0 {S L : Nat} {F G : Nat → Nat → Int} {h : Nat → Nat → Option Nat} (hh : RfH h) {a1 : Int} {a2 : Int}  {Q : Option V2 → W2 → Prop}
    (H : (R32 a1 ∧
 (if a1 = 0 then
  (R32 a2 ∧
  (if a2 < 0 then
   Q (some (vi (-1))) (Wd S L F G h)
  else
   (if 12 < a2 then
    Q (some (vi (-1))) (Wd S L F G h)
   else
    C1_0  (Wd S L F G h) (fun v w1 => ∃ (F6 : Nat → Nat → Int), v = none ∧ w1 = (Wd S L F6 G h) ∧
     C9_0 a1 (Wd S L F6 G h) (fun v w1 => ∃ (F7 : Nat → Nat → Int) (G8 : Nat → Nat → Int), v = none ∧ w1 = (Wd S L F7 G8 h) ∧
      C79_44 a2 0 (Wd S L F7 G8 h) Q)))))
 else
  (if a1 = 1 then
   (R32 a2 ∧
   (if a2 < 0 then
    Q (some (vi (-1))) (Wd S L F G h)
   else
    (if 12 < a2 then
     Q (some (vi (-1))) (Wd S L F G h)
    else
     C1_0  (Wd S L F G h) (fun v w1 => ∃ (F13 : Nat → Nat → Int), v = none ∧ w1 = (Wd S L F13 G h) ∧
      C9_0 a1 (Wd S L F13 G h) (fun v w1 => ∃ (F14 : Nat → Nat → Int) (G15 : Nat → Nat → Int), v = none ∧ w1 = (Wd S L F14 G15 h) ∧
       C79_44 a2 0 (Wd S L F14 G15 h) Q)))))
  else
   Q (some (vi (-1))) (Wd S L F G h))))) : C79_0 a1 a2 (Wd S L F G h) Q := by
  refine pt79 (s' := (1, [some (vr 0), some (vi a1), some (vi a2), none], [vi a1], (Wd S L F G h))) (by decide) [0] rfl trivial ?_
  refine wp.cl am_m79 rfl am_m102 6 [vi a1] [] rfl (Nat.le_of_ble_eq_true rfl) ⟨(Nat.le_of_ble_eq_true rfl), (Nat.le_of_ble_eq_true rfl)⟩ rfl (Nat.le_of_ble_eq_true rfl) rfl (Nat.le_of_ble_eq_true rfl) (Nat.le_of_ble_eq_true rfl) trivial ?_
  obtain ⟨g1, H⟩ := H
  refine pt102 (s' := (1, [some (vi a1)], [vi a1], (Wd S L F G h))) (by decide) [0] rfl trivial ?_
  by_cases c2 : a1 = 0
  · rw [if_pos c2] at H
    refine pt102 (s' := (14, [some (vi a1)], [vi 1], (Wd S L F G h))) (by decide) [1, 0, 0] rfl ⟨trivial, ⟨g1, c2⟩⟩ ?_
    refine wp.fin (v := some (vi 1)) (by decide) am_m102 rfl ⟨_, rfl, Or.inr ⟨rfl, Or.inr rfl⟩, rfl⟩ ?_
    show wp 11 79 (4, [some (vr 0), some (vi a1), some (vi a2), none], [vi 1], (Wd S L F G h)) _
    refine pt79 (s' := (11, [some (vr 0), some (vi a1), some (vi a2), none], [vi 12, vi 0, vi a2], (Wd S L F G h))) (by decide) [0, 0, 0, 0] rfl ⟨trivial, ⟨(by decide : R32 1), (by decide : ¬ (1 : Int) = (0 : Int))⟩⟩ ?_
    refine wp.cl am_m79 rfl am_m101 6 [vi a2, vi 0, vi 12] [] rfl (Nat.le_of_ble_eq_true rfl) ⟨(Nat.le_of_ble_eq_true rfl), (Nat.le_of_ble_eq_true rfl)⟩ rfl (Nat.le_of_ble_eq_true rfl) rfl (Nat.le_of_ble_eq_true rfl) (Nat.le_of_ble_eq_true rfl) trivial ?_
    obtain ⟨g3, H⟩ := H
    refine pt101 (s' := (2, [some (vi a2), some (vi 0), some (vi 12)], [vi 0, vi a2], (Wd S L F G h))) (by decide) [0, 0] rfl trivial ?_
    by_cases c4 : a2 < 0
    · rw [if_pos c4] at H
      refine pt101 (s' := (15, [some (vi a2), some (vi 0), some (vi 12)], [vi 0], (Wd S L F G h))) (by decide) [1, 0] rfl ⟨trivial, ⟨⟨g3, (by decide : R32 0)⟩, c4⟩⟩ ?_
      refine wp.fin (v := some (vi 0)) (by decide) am_m101 rfl ⟨_, rfl, Or.inr ⟨rfl, Or.inl rfl⟩, rfl⟩ ?_
      show wp 11 79 (14, [some (vr 0), some (vi a1), some (vi a2), none], [vi 0], (Wd S L F G h)) _
      refine pt79 (s' := (18, [some (vr 0), some (vi a1), some (vi a2), none], [vi (-1)], (Wd S L F G h))) (by decide) [0, 0] rfl ⟨trivial, ⟨(by decide : R32 0), (by decide : (0 : Int) = (0 : Int))⟩⟩ ?_
      exact wp.fin (v := some (vi (-1))) (by decide) am_m79 rfl ⟨_, rfl, Or.inl rfl, rfl⟩ H
    · rw [if_neg c4] at H
      refine pt101 (s' := (7, [some (vi a2), some (vi 0), some (vi 12)], [vi 12, vi a2], (Wd S L F G h))) (by decide) [0, 0, 0] rfl ⟨trivial, ⟨⟨g3, (by decide : R32 0)⟩, c4⟩⟩ ?_
      by_cases c5 : 12 < a2
      · rw [if_pos c5] at H
        refine pt101 (s' := (15, [some (vi a2), some (vi 0), some (vi 12)], [vi 0], (Wd S L F G h))) (by decide) [1, 0] rfl ⟨trivial, ⟨⟨g3, (by decide : R32 12)⟩, c5⟩⟩ ?_
        refine wp.fin (v := some (vi 0)) (by decide) am_m101 rfl ⟨_, rfl, Or.inr ⟨rfl, Or.inl rfl⟩, rfl⟩ ?_
        show wp 11 79 (14, [some (vr 0), some (vi a1), some (vi a2), none], [vi 0], (Wd S L F G h)) _
        refine pt79 (s' := (18, [some (vr 0), some (vi a1), some (vi a2), none], [vi (-1)], (Wd S L F G h))) (by decide) [0, 0] rfl ⟨trivial, ⟨(by decide : R32 0), (by decide : (0 : Int) = (0 : Int))⟩⟩ ?_
        exact wp.fin (v := some (vi (-1))) (by decide) am_m79 rfl ⟨_, rfl, Or.inl rfl, rfl⟩ H
      · rw [if_neg c5] at H
        refine pt101 (s' := (15, [some (vi a2), some (vi 0), some (vi 12)], [vi 1], (Wd S L F G h))) (by decide) [0, 0, 0] rfl ⟨trivial, ⟨⟨g3, (by decide : R32 12)⟩, c5⟩⟩ ?_
        refine wp.fin (v := some (vi 1)) (by decide) am_m101 rfl ⟨_, rfl, Or.inr ⟨rfl, Or.inr rfl⟩, rfl⟩ ?_
        show wp 11 79 (14, [some (vr 0), some (vi a1), some (vi a2), none], [vi 1], (Wd S L F G h)) _
        refine pt79 (s' := (27, [some (vr 0), some (vi a1), some (vi a2), none], [vr 1, vr 275], (Wd S L F G h))) (by decide) [1, 0, 275, 0, 1] rfl ⟨⟨⟨trivial, ⟨(by decide : R32 1), (by decide : ¬ (1 : Int) = (0 : Int))⟩⟩, ⟨Nat.le_of_ble_eq_true rfl, rfl, hh _ _ _ rfl⟩⟩, ⟨Nat.le_of_ble_eq_true rfl, rfl, hh _ _ _ rfl⟩⟩ ?_
        refine wp.cl am_m79 rfl am_m1 10 [vr 275, vr 1] [] rfl (Nat.le_of_ble_eq_true rfl) ⟨(Nat.le_of_ble_eq_true rfl), (Nat.le_of_ble_eq_true rfl)⟩ rfl (Nat.le_of_ble_eq_true rfl) rfl (Nat.le_of_ble_eq_true rfl) (Nat.le_of_ble_eq_true rfl) ⟨_, _, rfl, Nat.le_of_ble_eq_true rfl, rfl⟩ ?_
        refine wp.mono H ?_
        rintro v w1 ⟨F6, rfl, rfl, H⟩
        show wp 11 79 (30, [some (vr 0), some (vi a1), some (vi a2), none], [], (Wd S L F6 G h)) _
        refine pt79 (s' := (39, [some (vr 0), some (vi a1), some (vi a2), none], [vi a1, vr 1, vr 281], (Wd S L F6 G h))) (by decide) [0, 281, 0, 1, 0] rfl ⟨⟨trivial, ⟨Nat.le_of_ble_eq_true rfl, rfl, hh _ _ _ rfl⟩⟩, ⟨Nat.le_of_ble_eq_true rfl, rfl, hh _ _ _ rfl⟩⟩ ?_
        refine wp.cl am_m79 rfl am_m9 8 [vr 281, vr 1, vi a1] [] rfl (Nat.le_of_ble_eq_true rfl) ⟨(Nat.le_of_ble_eq_true rfl), (Nat.le_of_ble_eq_true rfl)⟩ rfl (Nat.le_of_ble_eq_true rfl) rfl (Nat.le_of_ble_eq_true rfl) (Nat.le_of_ble_eq_true rfl) ⟨_, _, rfl, Nat.le_of_ble_eq_true rfl, rfl⟩ ?_
        refine wp.mono H ?_
        rintro v w1 ⟨F7, G8, rfl, rfl, H⟩
        show wp 11 79 (42, [some (vr 0), some (vi a1), some (vi a2), none], [], (Wd S L F7 G8 h)) _
        refine pt79 (s' := (44, [some (vr 0), some (vi a1), some (vi a2), some (vi 0)], [], (Wd S L F7 G8 h))) (by decide) [0, 0] rfl trivial ?_
        exact wp.weak (a := [some (vr 0), none, some (vi a2), some (vi 0)]) ⟨rfl, rfl, rfl, trivial⟩ H
  · rw [if_neg c2] at H
    refine pt102 (s' := (6, [some (vi a1)], [vi 1, vi a1], (Wd S L F G h))) (by decide) [0, 0, 0] rfl ⟨trivial, ⟨g1, c2⟩⟩ ?_
    by_cases c9 : a1 = 1
    · rw [if_pos c9] at H
      refine pt102 (s' := (14, [some (vi a1)], [vi 1], (Wd S L F G h))) (by decide) [0, 0, 0] rfl ⟨trivial, ⟨⟨g1, (by decide : R32 1)⟩, c9⟩⟩ ?_
      refine wp.fin (v := some (vi 1)) (by decide) am_m102 rfl ⟨_, rfl, Or.inr ⟨rfl, Or.inr rfl⟩, rfl⟩ ?_
      show wp 11 79 (4, [some (vr 0), some (vi a1), some (vi a2), none], [vi 1], (Wd S L F G h)) _
      refine pt79 (s' := (11, [some (vr 0), some (vi a1), some (vi a2), none], [vi 12, vi 0, vi a2], (Wd S L F G h))) (by decide) [0, 0, 0, 0] rfl ⟨trivial, ⟨(by decide : R32 1), (by decide : ¬ (1 : Int) = (0 : Int))⟩⟩ ?_
      refine wp.cl am_m79 rfl am_m101 6 [vi a2, vi 0, vi 12] [] rfl (Nat.le_of_ble_eq_true rfl) ⟨(Nat.le_of_ble_eq_true rfl), (Nat.le_of_ble_eq_true rfl)⟩ rfl (Nat.le_of_ble_eq_true rfl) rfl (Nat.le_of_ble_eq_true rfl) (Nat.le_of_ble_eq_true rfl) trivial ?_
      obtain ⟨g10, H⟩ := H
      refine pt101 (s' := (2, [some (vi a2), some (vi 0), some (vi 12)], [vi 0, vi a2], (Wd S L F G h))) (by decide) [0, 0] rfl trivial ?_
      by_cases c11 : a2 < 0
      · rw [if_pos c11] at H
        refine pt101 (s' := (15, [some (vi a2), some (vi 0), some (vi 12)], [vi 0], (Wd S L F G h))) (by decide) [1, 0] rfl ⟨trivial, ⟨⟨g10, (by decide : R32 0)⟩, c11⟩⟩ ?_
        refine wp.fin (v := some (vi 0)) (by decide) am_m101 rfl ⟨_, rfl, Or.inr ⟨rfl, Or.inl rfl⟩, rfl⟩ ?_
        show wp 11 79 (14, [some (vr 0), some (vi a1), some (vi a2), none], [vi 0], (Wd S L F G h)) _
        refine pt79 (s' := (18, [some (vr 0), some (vi a1), some (vi a2), none], [vi (-1)], (Wd S L F G h))) (by decide) [0, 0] rfl ⟨trivial, ⟨(by decide : R32 0), (by decide : (0 : Int) = (0 : Int))⟩⟩ ?_
        exact wp.fin (v := some (vi (-1))) (by decide) am_m79 rfl ⟨_, rfl, Or.inl rfl, rfl⟩ H
      · rw [if_neg c11] at H
        refine pt101 (s' := (7, [some (vi a2), some (vi 0), some (vi 12)], [vi 12, vi a2], (Wd S L F G h))) (by decide) [0, 0, 0] rfl ⟨trivial, ⟨⟨g10, (by decide : R32 0)⟩, c11⟩⟩ ?_
        by_cases c12 : 12 < a2
        · rw [if_pos c12] at H
          refine pt101 (s' := (15, [some (vi a2), some (vi 0), some (vi 12)], [vi 0], (Wd S L F G h))) (by decide) [1, 0] rfl ⟨trivial, ⟨⟨g10, (by decide : R32 12)⟩, c12⟩⟩ ?_
          refine wp.fin (v := some (vi 0)) (by decide) am_m101 rfl ⟨_, rfl, Or.inr ⟨rfl, Or.inl rfl⟩, rfl⟩ ?_
          show wp 11 79 (14, [some (vr 0), some (vi a1), some (vi a2), none], [vi 0], (Wd S L F G h)) _
          refine pt79 (s' := (18, [some (vr 0), some (vi a1), some (vi a2), none], [vi (-1)], (Wd S L F G h))) (by decide) [0, 0] rfl ⟨trivial, ⟨(by decide : R32 0), (by decide : (0 : Int) = (0 : Int))⟩⟩ ?_
          exact wp.fin (v := some (vi (-1))) (by decide) am_m79 rfl ⟨_, rfl, Or.inl rfl, rfl⟩ H
        · rw [if_neg c12] at H
          refine pt101 (s' := (15, [some (vi a2), some (vi 0), some (vi 12)], [vi 1], (Wd S L F G h))) (by decide) [0, 0, 0] rfl ⟨trivial, ⟨⟨g10, (by decide : R32 12)⟩, c12⟩⟩ ?_
          refine wp.fin (v := some (vi 1)) (by decide) am_m101 rfl ⟨_, rfl, Or.inr ⟨rfl, Or.inr rfl⟩, rfl⟩ ?_
          show wp 11 79 (14, [some (vr 0), some (vi a1), some (vi a2), none], [vi 1], (Wd S L F G h)) _
          refine pt79 (s' := (27, [some (vr 0), some (vi a1), some (vi a2), none], [vr 1, vr 275], (Wd S L F G h))) (by decide) [1, 0, 275, 0, 1] rfl ⟨⟨⟨trivial, ⟨(by decide : R32 1), (by decide : ¬ (1 : Int) = (0 : Int))⟩⟩, ⟨Nat.le_of_ble_eq_true rfl, rfl, hh _ _ _ rfl⟩⟩, ⟨Nat.le_of_ble_eq_true rfl, rfl, hh _ _ _ rfl⟩⟩ ?_
          refine wp.cl am_m79 rfl am_m1 10 [vr 275, vr 1] [] rfl (Nat.le_of_ble_eq_true rfl) ⟨(Nat.le_of_ble_eq_true rfl), (Nat.le_of_ble_eq_true rfl)⟩ rfl (Nat.le_of_ble_eq_true rfl) rfl (Nat.le_of_ble_eq_true rfl) (Nat.le_of_ble_eq_true rfl) ⟨_, _, rfl, Nat.le_of_ble_eq_true rfl, rfl⟩ ?_
          refine wp.mono H ?_
          rintro v w1 ⟨F13, rfl, rfl, H⟩
          show wp 11 79 (30, [some (vr 0), some (vi a1), some (vi a2), none], [], (Wd S L F13 G h)) _
          refine pt79 (s' := (39, [some (vr 0), some (vi a1), some (vi a2), none], [vi a1, vr 1, vr 281], (Wd S L F13 G h))) (by decide) [0, 281, 0, 1, 0] rfl ⟨⟨trivial, ⟨Nat.le_of_ble_eq_true rfl, rfl, hh _ _ _ rfl⟩⟩, ⟨Nat.le_of_ble_eq_true rfl, rfl, hh _ _ _ rfl⟩⟩ ?_
          refine wp.cl am_m79 rfl am_m9 8 [vr 281, vr 1, vi a1] [] rfl (Nat.le_of_ble_eq_true rfl) ⟨(Nat.le_of_ble_eq_true rfl), (Nat.le_of_ble_eq_true rfl)⟩ rfl (Nat.le_of_ble_eq_true rfl) rfl (Nat.le_of_ble_eq_true rfl) (Nat.le_of_ble_eq_true rfl) ⟨_, _, rfl, Nat.le_of_ble_eq_true rfl, rfl⟩ ?_
          refine wp.mono H ?_
          rintro v w1 ⟨F14, G15, rfl, rfl, H⟩
          show wp 11 79 (42, [some (vr 0), some (vi a1), some (vi a2), none], [], (Wd S L F14 G15 h)) _
          refine pt79 (s' := (44, [some (vr 0), some (vi a1), some (vi a2), some (vi 0)], [], (Wd S L F14 G15 h))) (by decide) [0, 0] rfl trivial ?_
          exact wp.weak (a := [some (vr 0), none, some (vi a2), some (vi 0)]) ⟨rfl, rfl, rfl, trivial⟩ H
    · rw [if_neg c9] at H
      refine pt102 (s' := (14, [some (vi a1)], [vi 0], (Wd S L F G h))) (by decide) [1, 0] rfl ⟨trivial, ⟨⟨g1, (by decide : R32 1)⟩, c9⟩⟩ ?_
      refine wp.fin (v := some (vi 0)) (by decide) am_m102 rfl ⟨_, rfl, Or.inr ⟨rfl, Or.inl rfl⟩, rfl⟩ ?_
      show wp 11 79 (4, [some (vr 0), some (vi a1), some (vi a2), none], [vi 0], (Wd S L F G h)) _
      refine pt79 (s' := (18, [some (vr 0), some (vi a1), some (vi a2), none], [vi (-1)], (Wd S L F G h))) (by decide) [1, 0] rfl ⟨trivial, ⟨(by decide : R32 0), (by decide : (0 : Int) = (0 : Int))⟩⟩ ?_
      exact wp.fin (v := some (vi (-1))) (by decide) am_m79 rfl ⟨_, rfl, Or.inl rfl, rfl⟩ H
set_option maxRecDepth 100000 in
set_option maxHeartbeats 4000000 in
theorem T79_44 {S L : Nat} {F G : Nat → Nat → Int} {h : Nat → Nat → Option Nat} (hh : RfH h) {x2 : Int} {x3 : Int}  {Q : Option V2 → W2 → Prop}
    (H : (R32 x3 ∧
 (if 3 < x3 then
  Q (some (vi (-4))) (Wd S L F G h)
 else
  C12_0 x3 (Wd S L F G h) (fun v w1 => ∃ (v3 : Int), v = some (vj v3) ∧ w1 = (Wd S L F G h) ∧
   (R32 x2 ∧
   R64 v3 ∧
   R64 (x2 * 151351200) ∧
   (if (x2 * 151351200) < v3 then
    C79_44 x2 (x3 + 1) (Wd S L F G h) Q
   else
    Q (some (vi x3)) (Wd S L F G h))))))) : C79_44 x2 x3 (Wd S L F G h) Q := by
  obtain ⟨g1, H⟩ := H
  refine pt79 (s' := (46, [some (vr 0), none, some (vi x2), some (vi x3)], [vi 3, vi x3], (Wd S L F G h))) (by decide) [0, 0] rfl trivial ?_
  by_cases c2 : 3 < x3
  · rw [if_pos c2] at H
    refine pt79 (s' := (81, [some (vr 0), none, some (vi x2), some (vi x3)], [vi (-4)], (Wd S L F G h))) (by decide) [1, 0] rfl ⟨trivial, ⟨⟨g1, (by decide : R32 3)⟩, c2⟩⟩ ?_
    exact wp.fin (v := some (vi (-4))) (by decide) am_m79 rfl ⟨_, rfl, Or.inl rfl, rfl⟩ H
  · rw [if_neg c2] at H
    refine pt79 (s' := (58, [some (vr 0), none, some (vi x2), some (vi x3)], [vi x3, vr 275, vr 281], (Wd S L F G h))) (by decide) [0, 0, 281, 0, 275, 0] rfl ⟨⟨⟨trivial, ⟨⟨g1, (by decide : R32 3)⟩, c2⟩⟩, ⟨Nat.le_of_ble_eq_true rfl, rfl, hh _ _ _ rfl⟩⟩, ⟨Nat.le_of_ble_eq_true rfl, rfl, hh _ _ _ rfl⟩⟩ ?_
    refine wp.cl am_m79 rfl am_m12 8 [vr 281, vr 275, vi x3] [] rfl (Nat.le_of_ble_eq_true rfl) ⟨(Nat.le_of_ble_eq_true rfl), (Nat.le_of_ble_eq_true rfl)⟩ rfl (Nat.le_of_ble_eq_true rfl) rfl (Nat.le_of_ble_eq_true rfl) (Nat.le_of_ble_eq_true rfl) ⟨_, _, rfl, Nat.le_of_ble_eq_true rfl, rfl⟩ ?_
    refine wp.mono H ?_
    rintro v w1 ⟨v3, rfl, rfl, H⟩
    show wp 11 79 (61, [some (vr 0), none, some (vi x2), some (vi x3)], [vj v3], (Wd S L F G h)) _
    obtain ⟨g4, H⟩ := H
    obtain ⟨g5, H⟩ := H
    obtain ⟨g6, H⟩ := H
    refine pt79 (s' := (68, [some (vr 0), none, some (vi x2), some (vi x3)], [vi (y_cmp v3 (x2 * 151351200))], (Wd S L F G h))) (by decide) [0, 0, 0, 0, 0] rfl ⟨⟨trivial, g4⟩, (Or.inl ⟨g5, g6⟩)⟩ ?_
    by_cases c7 : (x2 * 151351200) < v3
    · rw [if_pos c7] at H
      refine pt79 (s' := (44, [some (vr 0), none, some (vi x2), some (vi (x3 + 1))], [], (Wd S L F G h))) (by decide) [1, 0, 0] rfl ⟨trivial, ⟨y_cmp_r32, (y_cmp_gt.mpr c7)⟩⟩ ?_
      exact wp.weak (a := [some (vr 0), none, some (vi x2), some (vi (x3 + 1))]) ⟨rfl, rfl, rfl, trivial⟩ H
    · rw [if_neg c7] at H
      refine pt79 (s' := (72, [some (vr 0), none, some (vi x2), some (vi x3)], [vi x3], (Wd S L F G h))) (by decide) [0, 0] rfl ⟨trivial, ⟨y_cmp_r32, (fun e => c7 (y_cmp_gt.mp e))⟩⟩ ?_
      exact wp.fin (v := some (vi x3)) (by decide) am_m79 rfl ⟨_, rfl, Or.inl rfl, rfl⟩ H
set_option maxRecDepth 100000 in
set_option maxHeartbeats 4000000 in
theorem T80_0 {S L : Nat} {F G : Nat → Nat → Int} {h : Nat → Nat → Option Nat} (hh : RfH h) {a1 : Int} {a2 : Int}  {Q : Option V2 → W2 → Prop}
    (H : (R32 a1 ∧
 (if a1 < 0 then
  Q (some (vi (-1))) (Wd S L F G h)
 else
  (R32 ((F 1 6) - 1) ∧
  (if ((F 1 6) - 1) < a1 then
   Q (some (vi (-1))) (Wd S L F G h)
  else
   (R32 a2 ∧
   (if a2 = 0 then
    C27_0 a1 (Wd S L F G h) (fun v w1 => ∃ (v7 : Int), v = some (vi v7) ∧ w1 = (Wd S L F G h) ∧
     C29_0 v7 (F 1 7) (F 1 8) (Wd S L F G h) (fun v w1 => ∃ (v8 : Int), v = some (vi v8) ∧ w1 = (Wd S L F G h) ∧
      (R32 ((v8 * (F 1 7)) - (v7 * (F 1 8))) ∧
      R32 (if 0 ≤ ((v8 * (F 1 7)) - (v7 * (F 1 8))) then ((v8 * (F 1 7)) - (v7 * (F 1 8))) else 0 - ((v8 * (F 1 7)) - (v7 * (F 1 8)))) ∧
      R32 (F 1 7) ∧
      C105_0 (if 0 ≤ ((v8 * (F 1 7)) - (v7 * (F 1 8))) then ((v8 * (F 1 7)) - (v7 * (F 1 8))) else 0 - ((v8 * (F 1 7)) - (v7 * (F 1 8)))) (F 1 7) a2 (Wd S L F G h) (fun v w1 => ∃ (v12 : Int), v = some (vj v12) ∧ w1 = (Wd S L F G h) ∧
       Q (some (vi v12)) (Wd S L F G h)))))
   else
    (if a2 = 1 then
     C27_0 a1 (Wd S L F G h) (fun v w1 => ∃ (v14 : Int), v = some (vi v14) ∧ w1 = (Wd S L F G h) ∧
      C29_0 v14 (F 1 7) (F 1 8) (Wd S L F G h) (fun v w1 => ∃ (v15 : Int), v = some (vi v15) ∧ w1 = (Wd S L F G h) ∧
       (R32 ((v15 * (F 1 7)) - (v14 * (F 1 8))) ∧
       R32 (if 0 ≤ ((v15 * (F 1 7)) - (v14 * (F 1 8))) then ((v15 * (F 1 7)) - (v14 * (F 1 8))) else 0 - ((v15 * (F 1 7)) - (v14 * (F 1 8)))) ∧
       R32 (F 1 7) ∧
       C105_0 (if 0 ≤ ((v15 * (F 1 7)) - (v14 * (F 1 8))) then ((v15 * (F 1 7)) - (v14 * (F 1 8))) else 0 - ((v15 * (F 1 7)) - (v14 * (F 1 8)))) (F 1 7) a2 (Wd S L F G h) (fun v w1 => ∃ (v19 : Int), v = some (vj v19) ∧ w1 = (Wd S L F G h) ∧
        Q (some (vi v19)) (Wd S L F G h)))))
    else
     Q (some (vi (-1))) (Wd S L F G h))))))))) : C80_0 a1 a2 (Wd S L F G h) Q := by
  refine pt80 (s' := (11, [some (vr 0), some (vi a1), some (vi a2), none, none], [vi ((F 1 6) - 1), vi 0, vi a1], (Wd S L F G h))) (by decide) [0, 0, 0, 1, 0, 0, 0] rfl ⟨⟨trivial, ⟨Nat.le_of_ble_eq_true rfl, rfl, hh _ _ _ rfl⟩⟩, ⟨Nat.le_of_ble_eq_true rfl, rfl⟩⟩ ?_
  refine wp.cl am_m80 rfl am_m101 6 [vi a1, vi 0, vi ((F 1 6) - 1)] [] rfl (Nat.le_of_ble_eq_true rfl) ⟨(Nat.le_of_ble_eq_true rfl), (Nat.le_of_ble_eq_true rfl)⟩ rfl (Nat.le_of_ble_eq_true rfl) rfl (Nat.le_of_ble_eq_true rfl) (Nat.le_of_ble_eq_true rfl) trivial ?_
  obtain ⟨g1, H⟩ := H
  refine pt101 (s' := (2, [some (vi a1), some (vi 0), some (vi ((F 1 6) - 1))], [vi 0, vi a1], (Wd S L F G h))) (by decide) [0, 0] rfl trivial ?_
  by_cases c2 : a1 < 0
  · rw [if_pos c2] at H
    refine pt101 (s' := (15, [some (vi a1), some (vi 0), some (vi ((F 1 6) - 1))], [vi 0], (Wd S L F G h))) (by decide) [1, 0] rfl ⟨trivial, ⟨⟨g1, (by decide : R32 0)⟩, c2⟩⟩ ?_
    refine wp.fin (v := some (vi 0)) (by decide) am_m101 rfl ⟨_, rfl, Or.inr ⟨rfl, Or.inl rfl⟩, rfl⟩ ?_
    show wp 9 80 (14, [some (vr 0), some (vi a1), some (vi a2), none, none], [vi 0], (Wd S L F G h)) _
    refine pt80 (s' := (25, [some (vr 0), some (vi a1), some (vi a2), none, none], [vi (-1)], (Wd S L F G h))) (by decide) [1, 0] rfl ⟨trivial, ⟨(by decide : R32 0), (by decide : (0 : Int) = (0 : Int))⟩⟩ ?_
    exact wp.fin (v := some (vi (-1))) (by decide) am_m80 rfl ⟨_, rfl, Or.inl rfl, rfl⟩ H
  · rw [if_neg c2] at H
    obtain ⟨g3, H⟩ := H
    refine pt101 (s' := (7, [some (vi a1), some (vi 0), some (vi ((F 1 6) - 1))], [vi ((F 1 6) - 1), vi a1], (Wd S L F G h))) (by decide) [0, 0, 0] rfl ⟨trivial, ⟨⟨g1, (by decide : R32 0)⟩, c2⟩⟩ ?_
    by_cases c4 : ((F 1 6) - 1) < a1
    · rw [if_pos c4] at H
      refine pt101 (s' := (15, [some (vi a1), some (vi 0), some (vi ((F 1 6) - 1))], [vi 0], (Wd S L F G h))) (by decide) [1, 0] rfl ⟨trivial, ⟨⟨g1, g3⟩, c4⟩⟩ ?_
      refine wp.fin (v := some (vi 0)) (by decide) am_m101 rfl ⟨_, rfl, Or.inr ⟨rfl, Or.inl rfl⟩, rfl⟩ ?_
      show wp 9 80 (14, [some (vr 0), some (vi a1), some (vi a2), none, none], [vi 0], (Wd S L F G h)) _
      refine pt80 (s' := (25, [some (vr 0), some (vi a1), some (vi a2), none, none], [vi (-1)], (Wd S L F G h))) (by decide) [1, 0] rfl ⟨trivial, ⟨(by decide : R32 0), (by decide : (0 : Int) = (0 : Int))⟩⟩ ?_
      exact wp.fin (v := some (vi (-1))) (by decide) am_m80 rfl ⟨_, rfl, Or.inl rfl, rfl⟩ H
    · rw [if_neg c4] at H
      refine pt101 (s' := (15, [some (vi a1), some (vi 0), some (vi ((F 1 6) - 1))], [vi 1], (Wd S L F G h))) (by decide) [0, 0, 0] rfl ⟨trivial, ⟨⟨g1, g3⟩, c4⟩⟩ ?_
      refine wp.fin (v := some (vi 1)) (by decide) am_m101 rfl ⟨_, rfl, Or.inr ⟨rfl, Or.inr rfl⟩, rfl⟩ ?_
      show wp 9 80 (14, [some (vr 0), some (vi a1), some (vi a2), none, none], [vi 1], (Wd S L F G h)) _
      refine pt80 (s' := (18, [some (vr 0), some (vi a1), some (vi a2), none, none], [vi a2], (Wd S L F G h))) (by decide) [0, 0] rfl ⟨trivial, ⟨(by decide : R32 1), (by decide : ¬ (1 : Int) = (0 : Int))⟩⟩ ?_
      refine wp.cl am_m80 rfl am_m103 6 [vi a2] [] rfl (Nat.le_of_ble_eq_true rfl) ⟨(Nat.le_of_ble_eq_true rfl), (Nat.le_of_ble_eq_true rfl)⟩ rfl (Nat.le_of_ble_eq_true rfl) rfl (Nat.le_of_ble_eq_true rfl) (Nat.le_of_ble_eq_true rfl) trivial ?_
      obtain ⟨g5, H⟩ := H
      refine pt103 (s' := (1, [some (vi a2)], [vi a2], (Wd S L F G h))) (by decide) [0] rfl trivial ?_
      by_cases c6 : a2 = 0
      · rw [if_pos c6] at H
        refine pt103 (s' := (14, [some (vi a2)], [vi 1], (Wd S L F G h))) (by decide) [1, 0, 0] rfl ⟨trivial, ⟨g5, c6⟩⟩ ?_
        refine wp.fin (v := some (vi 1)) (by decide) am_m103 rfl ⟨_, rfl, Or.inr ⟨rfl, Or.inr rfl⟩, rfl⟩ ?_
        show wp 9 80 (21, [some (vr 0), some (vi a1), some (vi a2), none, none], [vi 1], (Wd S L F G h)) _
        refine pt80 (s' := (31, [some (vr 0), some (vi a1), some (vi a2), none, none], [vi a1, vr 1], (Wd S L F G h))) (by decide) [1, 0, 1, 0] rfl ⟨⟨trivial, ⟨(by decide : R32 1), (by decide : ¬ (1 : Int) = (0 : Int))⟩⟩, ⟨Nat.le_of_ble_eq_true rfl, rfl, hh _ _ _ rfl⟩⟩ ?_
        refine wp.cl am_m80 rfl am_m27 6 [vr 1, vi a1] [] rfl (Nat.le_of_ble_eq_true rfl) ⟨(Nat.le_of_ble_eq_true rfl), (Nat.le_of_ble_eq_true rfl)⟩ rfl (Nat.le_of_ble_eq_true rfl) rfl (Nat.le_of_ble_eq_true rfl) (Nat.le_of_ble_eq_true rfl) ⟨_, _, rfl, Nat.le_of_ble_eq_true rfl, rfl⟩ ?_
        refine wp.mono H ?_
        rintro v w1 ⟨v7, rfl, rfl, H⟩
        show wp 9 80 (34, [some (vr 0), some (vi a1), some (vi a2), none, none], [vi v7], (Wd S L F G h)) _
        refine pt80 (s' := (40, [some (vr 0), some (vi a1), some (vi a2), some (vi v7), none], [vi v7, vr 1], (Wd S L F G h))) (by decide) [0, 0, 1, 0] rfl ⟨trivial, ⟨Nat.le_of_ble_eq_true rfl, rfl, hh _ _ _ rfl⟩⟩ ?_
        refine wp.cl am_m80 rfl am_m28 8 [vr 1, vi v7] [] rfl (Nat.le_of_ble_eq_true rfl) ⟨(Nat.le_of_ble_eq_true rfl), (Nat.le_of_ble_eq_true rfl)⟩ rfl (Nat.le_of_ble_eq_true rfl) rfl (Nat.le_of_ble_eq_true rfl) (Nat.le_of_ble_eq_true rfl) ⟨_, _, rfl, Nat.le_of_ble_eq_true rfl, rfl⟩ ?_
        refine pt28 (s' := (9, [some (vr 1), some (vi v7)], [vi (F 1 8), vi (F 1 7), vi v7], (Wd S L F G h))) (by decide) [0, 0, 0, 0, 0] rfl ⟨⟨trivial, ⟨Nat.le_of_ble_eq_true rfl, rfl⟩⟩, ⟨Nat.le_of_ble_eq_true rfl, rfl⟩⟩ ?_
        refine wp.cl am_m28 rfl am_m29 7 [vi v7, vi (F 1 7), vi (F 1 8)] [] rfl (Nat.le_of_ble_eq_true rfl) ⟨(Nat.le_of_ble_eq_true rfl), (Nat.le_of_ble_eq_true rfl)⟩ rfl (Nat.le_of_ble_eq_true rfl) rfl (Nat.le_of_ble_eq_true rfl) (Nat.le_of_ble_eq_true rfl) trivial ?_
        refine wp.mono H ?_
        rintro v w1 ⟨v8, rfl, rfl, H⟩
        show wp 8 28 (12, [some (vr 1), some (vi v7)], [vi v8], (Wd S L F G h)) _
        refine wp.fin (v := some (vi v8)) (by decide) am_m28 rfl ⟨_, rfl, Or.inl rfl, rfl⟩ ?_
        show wp 9 80 (43, [some (vr 0), some (vi a1), some (vi a2), some (vi v7), none], [vi v8], (Wd S L F G h)) _
        obtain ⟨g9, H⟩ := H
        obtain ⟨g10, H⟩ := H
        obtain ⟨g11, H⟩ := H
        refine pt80 (s' := (78, [some (vr 0), some (vi a1), some (vi a2), some (vi v7), some (vi (if 0 ≤ ((v8 * (F 1 7)) - (v7 * (F 1 8))) then ((v8 * (F 1 7)) - (v7 * (F 1 8))) else 0 - ((v8 * (F 1 7)) - (v7 * (F 1 8)))))], [vi a2, vj (F 1 7), vj (if 0 ≤ ((v8 * (F 1 7)) - (v7 * (F 1 8))) then ((v8 * (F 1 7)) - (v7 * (F 1 8))) else 0 - ((v8 * (F 1 7)) - (v7 * (F 1 8))))], (Wd S L F G h))) (by decide) [0, 1, 0, 0, 0, 0, 1, 0, 0, 0, 0, 0, 0, 0, 0, 1, 0, 0, 0] rfl ⟨⟨⟨⟨⟨⟨⟨⟨⟨trivial, ⟨Nat.le_of_ble_eq_true rfl, rfl, hh _ _ _ rfl⟩⟩, ⟨Nat.le_of_ble_eq_true rfl, rfl⟩⟩, ⟨Nat.le_of_ble_eq_true rfl, rfl, hh _ _ _ rfl⟩⟩, ⟨Nat.le_of_ble_eq_true rfl, rfl⟩⟩, ⟨Nat.le_of_ble_eq_true rfl, g9⟩⟩, g10⟩, ⟨Nat.le_of_ble_eq_true rfl, rfl, hh _ _ _ rfl⟩⟩, ⟨Nat.le_of_ble_eq_true rfl, rfl⟩⟩, g11⟩ ?_
        refine wp.cl am_m80 rfl am_m105 7 [vj (if 0 ≤ ((v8 * (F 1 7)) - (v7 * (F 1 8))) then ((v8 * (F 1 7)) - (v7 * (F 1 8))) else 0 - ((v8 * (F 1 7)) - (v7 * (F 1 8)))), vj (F 1 7), vi a2] [] rfl (Nat.le_of_ble_eq_true rfl) ⟨(Nat.le_of_ble_eq_true rfl), (Nat.le_of_ble_eq_true rfl)⟩ rfl (Nat.le_of_ble_eq_true rfl) rfl (Nat.le_of_ble_eq_true rfl) (Nat.le_of_ble_eq_true rfl) trivial ?_
        refine wp.mono H ?_
        rintro v w1 ⟨v12, rfl, rfl, H⟩
        show wp 9 80 (81, [some (vr 0), some (vi a1), some (vi a2), some (vi v7), some (vi (if 0 ≤ ((v8 * (F 1 7)) - (v7 * (F 1 8))) then ((v8 * (F 1 7)) - (v7 * (F 1 8))) else 0 - ((v8 * (F 1 7)) - (v7 * (F 1 8)))))], [vj v12], (Wd S L F G h)) _
        refine pt80 (s' := (82, [some (vr 0), some (vi a1), some (vi a2), some (vi v7), some (vi (if 0 ≤ ((v8 * (F 1 7)) - (v7 * (F 1 8))) then ((v8 * (F 1 7)) - (v7 * (F 1 8))) else 0 - ((v8 * (F 1 7)) - (v7 * (F 1 8)))))], [vi v12], (Wd S L F G h))) (by decide) [0] rfl trivial ?_
        exact wp.fin (v := some (vi v12)) (by decide) am_m80 rfl ⟨_, rfl, Or.inl rfl, rfl⟩ H
      · rw [if_neg c6] at H
        refine pt103 (s' := (6, [some (vi a2)], [vi 1, vi a2], (Wd S L F G h))) (by decide) [0, 0, 0] rfl ⟨trivial, ⟨g5, c6⟩⟩ ?_
        by_cases c13 : a2 = 1
        · rw [if_pos c13] at H
          refine pt103 (s' := (14, [some (vi a2)], [vi 1], (Wd S L F G h))) (by decide) [0, 0, 0] rfl ⟨trivial, ⟨⟨g5, (by decide : R32 1)⟩, c13⟩⟩ ?_
          refine wp.fin (v := some (vi 1)) (by decide) am_m103 rfl ⟨_, rfl, Or.inr ⟨rfl, Or.inr rfl⟩, rfl⟩ ?_
          show wp 9 80 (21, [some (vr 0), some (vi a1), some (vi a2), none, none], [vi 1], (Wd S L F G h)) _
          refine pt80 (s' := (31, [some (vr 0), some (vi a1), some (vi a2), none, none], [vi a1, vr 1], (Wd S L F G h))) (by decide) [1, 0, 1, 0] rfl ⟨⟨trivial, ⟨(by decide : R32 1), (by decide : ¬ (1 : Int) = (0 : Int))⟩⟩, ⟨Nat.le_of_ble_eq_true rfl, rfl, hh _ _ _ rfl⟩⟩ ?_
          refine wp.cl am_m80 rfl am_m27 6 [vr 1, vi a1] [] rfl (Nat.le_of_ble_eq_true rfl) ⟨(Nat.le_of_ble_eq_true rfl), (Nat.le_of_ble_eq_true rfl)⟩ rfl (Nat.le_of_ble_eq_true rfl) rfl (Nat.le_of_ble_eq_true rfl) (Nat.le_of_ble_eq_true rfl) ⟨_, _, rfl, Nat.le_of_ble_eq_true rfl, rfl⟩ ?_
          refine wp.mono H ?_
          rintro v w1 ⟨v14, rfl, rfl, H⟩
          show wp 9 80 (34, [some (vr 0), some (vi a1), some (vi a2), none, none], [vi v14], (Wd S L F G h)) _
          refine pt80 (s' := (40, [some (vr 0), some (vi a1), some (vi a2), some (vi v14), none], [vi v14, vr 1], (Wd S L F G h))) (by decide) [0, 0, 1, 0] rfl ⟨trivial, ⟨Nat.le_of_ble_eq_true rfl, rfl, hh _ _ _ rfl⟩⟩ ?_
          refine wp.cl am_m80 rfl am_m28 8 [vr 1, vi v14] [] rfl (Nat.le_of_ble_eq_true rfl) ⟨(Nat.le_of_ble_eq_true rfl), (Nat.le_of_ble_eq_true rfl)⟩ rfl (Nat.le_of_ble_eq_true rfl) rfl (Nat.le_of_ble_eq_true rfl) (Nat.le_of_ble_eq_true rfl) ⟨_, _, rfl, Nat.le_of_ble_eq_true rfl, rfl⟩ ?_
          refine pt28 (s' := (9, [some (vr 1), some (vi v14)], [vi (F 1 8), vi (F 1 7), vi v14], (Wd S L F G h))) (by decide) [0, 0, 0, 0, 0] rfl ⟨⟨trivial, ⟨Nat.le_of_ble_eq_true rfl, rfl⟩⟩, ⟨Nat.le_of_ble_eq_true rfl, rfl⟩⟩ ?_
          refine wp.cl am_m28 rfl am_m29 7 [vi v14, vi (F 1 7), vi (F 1 8)] [] rfl (Nat.le_of_ble_eq_true rfl) ⟨(Nat.le_of_ble_eq_true rfl), (Nat.le_of_ble_eq_true rfl)⟩ rfl (Nat.le_of_ble_eq_true rfl) rfl (Nat.le_of_ble_eq_true rfl) (Nat.le_of_ble_eq_true rfl) trivial ?_
          refine wp.mono H ?_
          rintro v w1 ⟨v15, rfl, rfl, H⟩
          show wp 8 28 (12, [some (vr 1), some (vi v14)], [vi v15], (Wd S L F G h)) _
          refine wp.fin (v := some (vi v15)) (by decide) am_m28 rfl ⟨_, rfl, Or.inl rfl, rfl⟩ ?_
          show wp 9 80 (43, [some (vr 0), some (vi a1), some (vi a2), some (vi v14), none], [vi v15], (Wd S L F G h)) _
          obtain ⟨g16, H⟩ := H
          obtain ⟨g17, H⟩ := H
          obtain ⟨g18, H⟩ := H
          refine pt80 (s' := (78, [some (vr 0), some (vi a1), some (vi a2), some (vi v14), some (vi (if 0 ≤ ((v15 * (F 1 7)) - (v14 * (F 1 8))) then ((v15 * (F 1 7)) - (v14 * (F 1 8))) else 0 - ((v15 * (F 1 7)) - (v14 * (F 1 8)))))], [vi a2, vj (F 1 7), vj (if 0 ≤ ((v15 * (F 1 7)) - (v14 * (F 1 8))) then ((v15 * (F 1 7)) - (v14 * (F 1 8))) else 0 - ((v15 * (F 1 7)) - (v14 * (F 1 8))))], (Wd S L F G h))) (by decide) [0, 1, 0, 0, 0, 0, 1, 0, 0, 0, 0, 0, 0, 0, 0, 1, 0, 0, 0] rfl ⟨⟨⟨⟨⟨⟨⟨⟨⟨trivial, ⟨Nat.le_of_ble_eq_true rfl, rfl, hh _ _ _ rfl⟩⟩, ⟨Nat.le_of_ble_eq_true rfl, rfl⟩⟩, ⟨Nat.le_of_ble_eq_true rfl, rfl, hh _ _ _ rfl⟩⟩, ⟨Nat.le_of_ble_eq_true rfl, rfl⟩⟩, ⟨Nat.le_of_ble_eq_true rfl, g16⟩⟩, g17⟩, ⟨Nat.le_of_ble_eq_true rfl, rfl, hh _ _ _ rfl⟩⟩, ⟨Nat.le_of_ble_eq_true rfl, rfl⟩⟩, g18⟩ ?_
          refine wp.cl am_m80 rfl am_m105 7 [vj (if 0 ≤ ((v15 * (F 1 7)) - (v14 * (F 1 8))) then ((v15 * (F 1 7)) - (v14 * (F 1 8))) else 0 - ((v15 * (F 1 7)) - (v14 * (F 1 8)))), vj (F 1 7), vi a2] [] rfl (Nat.le_of_ble_eq_true rfl) ⟨(Nat.le_of_ble_eq_true rfl), (Nat.le_of_ble_eq_true rfl)⟩ rfl (Nat.le_of_ble_eq_true rfl) rfl (Nat.le_of_ble_eq_true rfl) (Nat.le_of_ble_eq_true rfl) trivial ?_
          refine wp.mono H ?_
          rintro v w1 ⟨v19, rfl, rfl, H⟩
          show wp 9 80 (81, [some (vr 0), some (vi a1), some (vi a2), some (vi v14), some (vi (if 0 ≤ ((v15 * (F 1 7)) - (v14 * (F 1 8))) then ((v15 * (F 1 7)) - (v14 * (F 1 8))) else 0 - ((v15 * (F 1 7)) - (v14 * (F 1 8)))))], [vj v19], (Wd S L F G h)) _
          refine pt80 (s' := (82, [some (vr 0), some (vi a1), some (vi a2), some (vi v14), some (vi (if 0 ≤ ((v15 * (F 1 7)) - (v14 * (F 1 8))) then ((v15 * (F 1 7)) - (v14 * (F 1 8))) else 0 - ((v15 * (F 1 7)) - (v14 * (F 1 8)))))], [vi v19], (Wd S L F G h))) (by decide) [0] rfl trivial ?_
          exact wp.fin (v := some (vi v19)) (by decide) am_m80 rfl ⟨_, rfl, Or.inl rfl, rfl⟩ H
        · rw [if_neg c13] at H
          refine pt103 (s' := (14, [some (vi a2)], [vi 0], (Wd S L F G h))) (by decide) [1, 0] rfl ⟨trivial, ⟨⟨g5, (by decide : R32 1)⟩, c13⟩⟩ ?_
          refine wp.fin (v := some (vi 0)) (by decide) am_m103 rfl ⟨_, rfl, Or.inr ⟨rfl, Or.inl rfl⟩, rfl⟩ ?_
          show wp 9 80 (21, [some (vr 0), some (vi a1), some (vi a2), none, none], [vi 0], (Wd S L F G h)) _
          refine pt80 (s' := (25, [some (vr 0), some (vi a1), some (vi a2), none, none], [vi (-1)], (Wd S L F G h))) (by decide) [0, 0] rfl ⟨trivial, ⟨(by decide : R32 0), (by decide : (0 : Int) = (0 : Int))⟩⟩ ?_
          exact wp.fin (v := some (vi (-1))) (by decide) am_m80 rfl ⟨_, rfl, Or.inl rfl, rfl⟩ H
set_option maxRecDepth 100000 in
set_option maxHeartbeats 4000000 in
theorem T81_0 {S L : Nat} {F G : Nat → Nat → Int} {h : Nat → Nat → Option Nat} (hh : RfH h) {a1 : Int}  {Q : Option V2 → W2 → Prop}
    (H : C24_0 19 1 (Wd S L F G h) (fun v w1 => ∃ (F1 : Nat → Nat → Int), v = none ∧ w1 = (Wd S L F1 G h) ∧
  C40_0 a1 (Wd S L F1 G h) (fun v w1 => ∃ (v2 : Int) (F3 : Nat → Nat → Int), v = some (vi v2) ∧ w1 = (Wd S L F3 G h) ∧
   (R32 v2 ∧
   (if v2 < 0 then
    Q (some (vi v2)) (Wd S L F3 G h)
   else
    C14_0 19 (Wd S L F3 G h) (fun v w1 => ∃ (F6 : Nat → Nat → Int) (h7 : Nat → Nat → Option Nat), v = none ∧ w1 = (Wd S L F6 G h7) ∧ RfH h7 ∧
     Q (some (vi v2)) (Wd S L F6 G h7))))))) : C81_0 a1 (Wd S L F G h) Q := by
  refine pt81 (s' := (8, [some (vr 0), some (vi a1)], [vr 1, vr 19], (Wd S L F G h))) (by decide) [0, 19, 0, 1] rfl ⟨⟨trivial, ⟨Nat.le_of_ble_eq_true rfl, rfl, hh _ _ _ rfl⟩⟩, ⟨Nat.le_of_ble_eq_true rfl, rfl, hh _ _ _ rfl⟩⟩ ?_
  refine wp.cl am_m81 rfl am_m24 6 [vr 19, vr 1] [] rfl (Nat.le_of_ble_eq_true rfl) ⟨(Nat.le_of_ble_eq_true rfl), (Nat.le_of_ble_eq_true rfl)⟩ rfl (Nat.le_of_ble_eq_true rfl) rfl (Nat.le_of_ble_eq_true rfl) (Nat.le_of_ble_eq_true rfl) ⟨_, _, rfl, Nat.le_of_ble_eq_true rfl, rfl⟩ ?_
  refine wp.mono H ?_
  rintro v w1 ⟨F1, rfl, rfl, H⟩
  show wp 9 81 (11, [some (vr 0), some (vi a1)], [], (Wd S L F1 G h)) _
  refine pt81 (s' := (17, [some (vr 0), some (vi a1)], [vi a1, vr 1, vr 0], (Wd S L F1 G h))) (by decide) [0, 0, 1, 0] rfl ⟨trivial, ⟨Nat.le_of_ble_eq_true rfl, rfl, hh _ _ _ rfl⟩⟩ ?_
  refine wp.cl am_m81 rfl am_m40 7 [vr 1, vi a1] [vr 0] rfl (Nat.le_of_ble_eq_true rfl) ⟨(Nat.le_of_ble_eq_true rfl), (Nat.le_of_ble_eq_true rfl)⟩ rfl (Nat.le_of_ble_eq_true rfl) rfl (Nat.le_of_ble_eq_true rfl) (Nat.le_of_ble_eq_true rfl) ⟨_, _, rfl, Nat.le_of_ble_eq_true rfl, rfl⟩ ?_
  refine wp.mono H ?_
  rintro v w1 ⟨v2, F3, rfl, rfl, H⟩
  show wp 9 81 (20, [some (vr 0), some (vi a1)], [vi v2, vr 0], (Wd S L F3 G h)) _
  refine wp.cl am_m81 rfl am_m98 8 [vr 0, vi v2] [] rfl (Nat.le_of_ble_eq_true rfl) ⟨(Nat.le_of_ble_eq_true rfl), (Nat.le_of_ble_eq_true rfl)⟩ rfl (Nat.le_of_ble_eq_true rfl) rfl (Nat.le_of_ble_eq_true rfl) (Nat.le_of_ble_eq_true rfl) ⟨_, _, rfl, Nat.le_of_ble_eq_true rfl, rfl⟩ ?_
  obtain ⟨g4, H⟩ := H
  refine pt98 (s' := (1, [some (vr 0), some (vi v2)], [vi v2], (Wd S L F3 G h))) (by decide) [0] rfl trivial ?_
  by_cases c5 : v2 < 0
  · rw [if_pos c5] at H
    refine pt98 (s' := (16, [some (vr 0), some (vi v2)], [vi v2], (Wd S L F3 G h))) (by decide) [1, 0] rfl ⟨trivial, ⟨g4, c5⟩⟩ ?_
    refine wp.fin (v := some (vi v2)) (by decide) am_m98 rfl ⟨_, rfl, Or.inl rfl, rfl⟩ ?_
    show wp 9 81 (23, [some (vr 0), some (vi a1)], [vi v2], (Wd S L F3 G h)) _
    exact wp.fin (v := some (vi v2)) (by decide) am_m81 rfl ⟨_, rfl, Or.inl rfl, rfl⟩ H
  · rw [if_neg c5] at H
    refine pt98 (s' := (12, [some (vr 0), some (vi v2)], [vr 19, vr 37], (Wd S L F3 G h))) (by decide) [0, 0, 37, 0, 19] rfl ⟨⟨⟨trivial, ⟨g4, c5⟩⟩, ⟨Nat.le_of_ble_eq_true rfl, rfl, hh _ _ _ rfl⟩⟩, ⟨Nat.le_of_ble_eq_true rfl, rfl, hh _ _ _ rfl⟩⟩ ?_
    refine wp.cl am_m98 rfl am_m14 7 [vr 37, vr 19] [] rfl (Nat.le_of_ble_eq_true rfl) ⟨(Nat.le_of_ble_eq_true rfl), (Nat.le_of_ble_eq_true rfl)⟩ rfl (Nat.le_of_ble_eq_true rfl) rfl (Nat.le_of_ble_eq_true rfl) (Nat.le_of_ble_eq_true rfl) ⟨_, _, rfl, Nat.le_of_ble_eq_true rfl, rfl⟩ ?_
    refine wp.mono H ?_
    rintro v w1 ⟨F6, h7, rfl, rfl, r8, H⟩
    show wp 8 98 (15, [some (vr 0), some (vi v2)], [], (Wd S L F6 G h7)) _
    refine pt98 (s' := (16, [some (vr 0), some (vi v2)], [vi v2], (Wd S L F6 G h7))) (by decide) [0] rfl trivial ?_
    refine wp.fin (v := some (vi v2)) (by decide) am_m98 rfl ⟨_, rfl, Or.inl rfl, rfl⟩ ?_
    show wp 9 81 (23, [some (vr 0), some (vi a1)], [vi v2], (Wd S L F6 G h7)) _
    exact wp.fin (v := some (vi v2)) (by decide) am_m81 rfl ⟨_, rfl, Or.inl rfl, rfl⟩ H
set_option maxRecDepth 100000 in
set_option maxHeartbeats 4000000 in
theorem T82_0 {S L : Nat} {F G : Nat → Nat → Int} {h : Nat → Nat → Option Nat} (hh : RfH h) {a1 : Int} {a2 : Int}  {Q : Option V2 → W2 → Prop}
    (H : (R32 a1 ∧
 (if a1 < 0 then
  Q (some (vi (-1))) (Wd S L F G h)
 else
  (R32 ((F 1 13) - 1) ∧
  (if ((F 1 13) - 1) < a1 then
   Q (some (vi (-1))) (Wd S L F G h)
  else
   (R32 a2 ∧
   (if a2 = 0 then
    ((0 ≤ a1 ∧ a1 < 8) ∧
    Q (some (vi (F 8 a1.toNat))) (Wd S L F G h))
   else
   (if a2 = 1 then
    ((0 ≤ a1 ∧ a1 < 8) ∧
    Q (some (vi (F 9 a1.toNat))) (Wd S L F G h))
   else
   (if a2 = 2 then
    C41_0 a1 (Wd S L F G h) (fun v w1 => ∃ (v11 : Int), v = some (vi v11) ∧ w1 = (Wd S L F G h) ∧
     C109_0 v11 (Wd S L F G h) (fun v w1 => ∃ (v12 : Int), v = some (vi v12) ∧ w1 = (Wd S L F G h) ∧
      Q (some (vi v12)) (Wd S L F G h)))
   else
   (if a2 = 3 then
    C41_0 a1 (Wd S L F G h) (fun v w1 => ∃ (v14 : Int), v = some (vi v14) ∧ w1 = (Wd S L F G h) ∧
     C42_0 v14 (Wd S L F G h) (fun v w1 => ∃ (v15 : Int), v = some (vi v15) ∧ w1 = (Wd S L F G h) ∧
      C111_0 v15 (Wd S L F G h) (fun v w1 => ∃ (v16 : Int), v = some (vi v16) ∧ w1 = (Wd S L F G h) ∧
       Q (some (vi v16)) (Wd S L F G h))))
   else
   (if a2 = 4 then
    C41_0 a1 (Wd S L F G h) (fun v w1 => ∃ (v18 : Int), v = some (vi v18) ∧ w1 = (Wd S L F G h) ∧
     C42_0 v18 (Wd S L F G h) (fun v w1 => ∃ (v19 : Int), v = some (vi v19) ∧ w1 = (Wd S L F G h) ∧
      C110_0 v19 (Wd S L F G h) (fun v w1 => ∃ (v20 : Int), v = some (vi v20) ∧ w1 = (Wd S L F G h) ∧
       Q (some (vi v20)) (Wd S L F G h))))
   else
   Q (some (vi (-1))) (Wd S L F G h)))))))))))) : C82_0 a1 a2 (Wd S L F G h) Q := by
  refine pt82 (s' := (11, [some (vr 0), some (vi a1), some (vi a2)], [vi ((F 1 13) - 1), vi 0, vi a1], (Wd S L F G h))) (by decide) [0, 0, 0, 1, 0, 0, 0] rfl ⟨⟨trivial, ⟨Nat.le_of_ble_eq_true rfl, rfl, hh _ _ _ rfl⟩⟩, ⟨Nat.le_of_ble_eq_true rfl, rfl⟩⟩ ?_
  refine wp.cl am_m82 rfl am_m101 6 [vi a1, vi 0, vi ((F 1 13) - 1)] [] rfl (Nat.le_of_ble_eq_true rfl) ⟨(Nat.le_of_ble_eq_true rfl), (Nat.le_of_ble_eq_true rfl)⟩ rfl (Nat.le_of_ble_eq_true rfl) rfl (Nat.le_of_ble_eq_true rfl) (Nat.le_of_ble_eq_true rfl) trivial ?_
  obtain ⟨g1, H⟩ := H
  refine pt101 (s' := (2, [some (vi a1), some (vi 0), some (vi ((F 1 13) - 1))], [vi 0, vi a1], (Wd S L F G h))) (by decide) [0, 0] rfl trivial ?_
  by_cases c2 : a1 < 0
  · rw [if_pos c2] at H
    refine pt101 (s' := (15, [some (vi a1), some (vi 0), some (vi ((F 1 13) - 1))], [vi 0], (Wd S L F G h))) (by decide) [1, 0] rfl ⟨trivial, ⟨⟨g1, (by decide : R32 0)⟩, c2⟩⟩ ?_
    refine wp.fin (v := some (vi 0)) (by decide) am_m101 rfl ⟨_, rfl, Or.inr ⟨rfl, Or.inl rfl⟩, rfl⟩ ?_
    show wp 9 82 (14, [some (vr 0), some (vi a1), some (vi a2)], [vi 0], (Wd S L F G h)) _
    refine pt82 (s' := (18, [some (vr 0), some (vi a1), some (vi a2)], [vi (-1)], (Wd S L F G h))) (by decide) [0, 0] rfl ⟨trivial, ⟨(by decide : R32 0), (by decide : (0 : Int) = (0 : Int))⟩⟩ ?_
    exact wp.fin (v := some (vi (-1))) (by decide) am_m82 rfl ⟨_, rfl, Or.inl rfl, rfl⟩ H
  · rw [if_neg c2] at H
    obtain ⟨g3, H⟩ := H
    refine pt101 (s' := (7, [some (vi a1), some (vi 0), some (vi ((F 1 13) - 1))], [vi ((F 1 13) - 1), vi a1], (Wd S L F G h))) (by decide) [0, 0, 0] rfl ⟨trivial, ⟨⟨g1, (by decide : R32 0)⟩, c2⟩⟩ ?_
    by_cases c4 : ((F 1 13) - 1) < a1
    · rw [if_pos c4] at H
      refine pt101 (s' := (15, [some (vi a1), some (vi 0), some (vi ((F 1 13) - 1))], [vi 0], (Wd S L F G h))) (by decide) [1, 0] rfl ⟨trivial, ⟨⟨g1, g3⟩, c4⟩⟩ ?_
      refine wp.fin (v := some (vi 0)) (by decide) am_m101 rfl ⟨_, rfl, Or.inr ⟨rfl, Or.inl rfl⟩, rfl⟩ ?_
      show wp 9 82 (14, [some (vr 0), some (vi a1), some (vi a2)], [vi 0], (Wd S L F G h)) _
      refine pt82 (s' := (18, [some (vr 0), some (vi a1), some (vi a2)], [vi (-1)], (Wd S L F G h))) (by decide) [0, 0] rfl ⟨trivial, ⟨(by decide : R32 0), (by decide : (0 : Int) = (0 : Int))⟩⟩ ?_
      exact wp.fin (v := some (vi (-1))) (by decide) am_m82 rfl ⟨_, rfl, Or.inl rfl, rfl⟩ H
    · rw [if_neg c4] at H
      refine pt101 (s' := (15, [some (vi a1), some (vi 0), some (vi ((F 1 13) - 1))], [vi 1], (Wd S L F G h))) (by decide) [0, 0, 0] rfl ⟨trivial, ⟨⟨g1, g3⟩, c4⟩⟩ ?_
      refine wp.fin (v := some (vi 1)) (by decide) am_m101 rfl ⟨_, rfl, Or.inr ⟨rfl, Or.inr rfl⟩, rfl⟩ ?_
      show wp 9 82 (14, [some (vr 0), some (vi a1), some (vi a2)], [vi 1], (Wd S L F G h)) _
      obtain ⟨g5, H⟩ := H
      refine pt82 (s' := (20, [some (vr 0), some (vi a1), some (vi a2)], [vi a2], (Wd S L F G h))) (by decide) [1, 0] rfl ⟨trivial, ⟨(by decide : R32 1), (by decide : ¬ (1 : Int) = (0 : Int))⟩⟩ ?_
      by_cases c6 : a2 = 0
      · rw [if_pos c6] at H
        obtain ⟨g7, H⟩ := H
        refine pt82 (s' := (65, [some (vr 0), some (vi a1), some (vi a2)], [vi (F 8 a1.toNat)], (Wd S L F G h))) (by decide) [1, 0, 1, 8, 0, 0] rfl ⟨⟨⟨⟨trivial, ⟨g5, (by omega : ¬ a2 < 0), (by omega : ¬ 4 < a2), c6⟩⟩, ⟨Nat.le_of_ble_eq_true rfl, rfl, hh _ _ _ rfl⟩⟩, ⟨Nat.le_of_ble_eq_true rfl, rfl, hh _ _ _ rfl⟩⟩, (ix ⟨Nat.le_of_ble_eq_true rfl, rfl⟩ g7)⟩ ?_
        exact wp.fin (v := some (vi (F 8 a1.toNat))) (by decide) am_m82 rfl ⟨_, rfl, Or.inl rfl, rfl⟩ H
      · rw [if_neg c6] at H
        by_cases c8 : a2 = 1
        · rw [if_pos c8] at H
          obtain ⟨g9, H⟩ := H
          refine pt82 (s' := (75, [some (vr 0), some (vi a1), some (vi a2)], [vi (F 9 a1.toNat)], (Wd S L F G h))) (by decide) [2, 0, 1, 9, 0, 0] rfl ⟨⟨⟨⟨trivial, ⟨g5, (by omega : ¬ a2 < 0), (by omega : ¬ 4 < a2), c8⟩⟩, ⟨Nat.le_of_ble_eq_true rfl, rfl, hh _ _ _ rfl⟩⟩, ⟨Nat.le_of_ble_eq_true rfl, rfl, hh _ _ _ rfl⟩⟩, (ix ⟨Nat.le_of_ble_eq_true rfl, rfl⟩ g9)⟩ ?_
          exact wp.fin (v := some (vi (F 9 a1.toNat))) (by decide) am_m82 rfl ⟨_, rfl, Or.inl rfl, rfl⟩ H
        · rw [if_neg c8] at H
          by_cases c10 : a2 = 2
          · rw [if_pos c10] at H
            refine pt82 (s' := (81, [some (vr 0), some (vi a1), some (vi a2)], [vi a1, vr 1], (Wd S L F G h))) (by decide) [3, 0, 1, 0] rfl ⟨⟨trivial, ⟨g5, (by omega : ¬ a2 < 0), (by omega : ¬ 4 < a2), c10⟩⟩, ⟨Nat.le_of_ble_eq_true rfl, rfl, hh _ _ _ rfl⟩⟩ ?_
            refine wp.cl am_m82 rfl am_m41 7 [vr 1, vi a1] [] rfl (Nat.le_of_ble_eq_true rfl) ⟨(Nat.le_of_ble_eq_true rfl), (Nat.le_of_ble_eq_true rfl)⟩ rfl (Nat.le_of_ble_eq_true rfl) rfl (Nat.le_of_ble_eq_true rfl) (Nat.le_of_ble_eq_true rfl) ⟨_, _, rfl, Nat.le_of_ble_eq_true rfl, rfl⟩ ?_
            refine wp.mono H ?_
            rintro v w1 ⟨v11, rfl, rfl, H⟩
            show wp 9 82 (84, [some (vr 0), some (vi a1), some (vi a2)], [vi v11], (Wd S L F G h)) _
            refine wp.cl am_m82 rfl am_m109 6 [vi v11] [] rfl (Nat.le_of_ble_eq_true rfl) ⟨(Nat.le_of_ble_eq_true rfl), (Nat.le_of_ble_eq_true rfl)⟩ rfl (Nat.le_of_ble_eq_true rfl) rfl (Nat.le_of_ble_eq_true rfl) (Nat.le_of_ble_eq_true rfl) trivial ?_
            refine wp.mono H ?_
            rintro v w1 ⟨v12, rfl, rfl, H⟩
            show wp 9 82 (87, [some (vr 0), some (vi a1), some (vi a2)], [vi v12], (Wd S L F G h)) _
            exact wp.fin (v := some (vi v12)) (by decide) am_m82 rfl ⟨_, rfl, Or.inl rfl, rfl⟩ H
          · rw [if_neg c10] at H
            by_cases c13 : a2 = 3
            · rw [if_pos c13] at H
              refine pt82 (s' := (97, [some (vr 0), some (vi a1), some (vi a2)], [vi a1, vr 1, vr 1], (Wd S L F G h))) (by decide) [4, 0, 1, 0, 1, 0] rfl ⟨⟨⟨trivial, ⟨g5, (by omega : ¬ a2 < 0), (by omega : ¬ 4 < a2), c13⟩⟩, ⟨Nat.le_of_ble_eq_true rfl, rfl, hh _ _ _ rfl⟩⟩, ⟨Nat.le_of_ble_eq_true rfl, rfl, hh _ _ _ rfl⟩⟩ ?_
              refine wp.cl am_m82 rfl am_m41 7 [vr 1, vi a1] [vr 1] rfl (Nat.le_of_ble_eq_true rfl) ⟨(Nat.le_of_ble_eq_true rfl), (Nat.le_of_ble_eq_true rfl)⟩ rfl (Nat.le_of_ble_eq_true rfl) rfl (Nat.le_of_ble_eq_true rfl) (Nat.le_of_ble_eq_true rfl) ⟨_, _, rfl, Nat.le_of_ble_eq_true rfl, rfl⟩ ?_
              refine wp.mono H ?_
              rintro v w1 ⟨v14, rfl, rfl, H⟩
              show wp 9 82 (100, [some (vr 0), some (vi a1), some (vi a2)], [vi v14, vr 1], (Wd S L F G h)) _
              refine wp.cl am_m82 rfl am_m42 8 [vr 1, vi v14] [] rfl (Nat.le_of_ble_eq_true rfl) ⟨(Nat.le_of_ble_eq_true rfl), (Nat.le_of_ble_eq_true rfl)⟩ rfl (Nat.le_of_ble_eq_true rfl) rfl (Nat.le_of_ble_eq_true rfl) (Nat.le_of_ble_eq_true rfl) ⟨_, _, rfl, Nat.le_of_ble_eq_true rfl, rfl⟩ ?_
              refine wp.mono H ?_
              rintro v w1 ⟨v15, rfl, rfl, H⟩
              show wp 9 82 (103, [some (vr 0), some (vi a1), some (vi a2)], [vi v15], (Wd S L F G h)) _
              refine wp.cl am_m82 rfl am_m111 6 [vi v15] [] rfl (Nat.le_of_ble_eq_true rfl) ⟨(Nat.le_of_ble_eq_true rfl), (Nat.le_of_ble_eq_true rfl)⟩ rfl (Nat.le_of_ble_eq_true rfl) rfl (Nat.le_of_ble_eq_true rfl) (Nat.le_of_ble_eq_true rfl) trivial ?_
              refine wp.mono H ?_
              rintro v w1 ⟨v16, rfl, rfl, H⟩
              show wp 9 82 (106, [some (vr 0), some (vi a1), some (vi a2)], [vi v16], (Wd S L F G h)) _
              exact wp.fin (v := some (vi v16)) (by decide) am_m82 rfl ⟨_, rfl, Or.inl rfl, rfl⟩ H
            · rw [if_neg c13] at H
              by_cases c17 : a2 = 4
              · rw [if_pos c17] at H
                refine pt82 (s' := (116, [some (vr 0), some (vi a1), some (vi a2)], [vi a1, vr 1, vr 1], (Wd S L F G h))) (by decide) [5, 0, 1, 0, 1, 0] rfl ⟨⟨⟨trivial, ⟨g5, (by omega : ¬ a2 < 0), (by omega : ¬ 4 < a2), c17⟩⟩, ⟨Nat.le_of_ble_eq_true rfl, rfl, hh _ _ _ rfl⟩⟩, ⟨Nat.le_of_ble_eq_true rfl, rfl, hh _ _ _ rfl⟩⟩ ?_
                refine wp.cl am_m82 rfl am_m41 7 [vr 1, vi a1] [vr 1] rfl (Nat.le_of_ble_eq_true rfl) ⟨(Nat.le_of_ble_eq_true rfl), (Nat.le_of_ble_eq_true rfl)⟩ rfl (Nat.le_of_ble_eq_true rfl) rfl (Nat.le_of_ble_eq_true rfl) (Nat.le_of_ble_eq_true rfl) ⟨_, _, rfl, Nat.le_of_ble_eq_true rfl, rfl⟩ ?_
                refine wp.mono H ?_
                rintro v w1 ⟨v18, rfl, rfl, H⟩
                show wp 9 82 (119, [some (vr 0), some (vi a1), some (vi a2)], [vi v18, vr 1], (Wd S L F G h)) _
                refine wp.cl am_m82 rfl am_m42 8 [vr 1, vi v18] [] rfl (Nat.le_of_ble_eq_true rfl) ⟨(Nat.le_of_ble_eq_true rfl), (Nat.le_of_ble_eq_true rfl)⟩ rfl (Nat.le_of_ble_eq_true rfl) rfl (Nat.le_of_ble_eq_true rfl) (Nat.le_of_ble_eq_true rfl) ⟨_, _, rfl, Nat.le_of_ble_eq_true rfl, rfl⟩ ?_
                refine wp.mono H ?_
                rintro v w1 ⟨v19, rfl, rfl, H⟩
                show wp 9 82 (122, [some (vr 0), some (vi a1), some (vi a2)], [vi v19], (Wd S L F G h)) _
                refine wp.cl am_m82 rfl am_m110 6 [vi v19] [] rfl (Nat.le_of_ble_eq_true rfl) ⟨(Nat.le_of_ble_eq_true rfl), (Nat.le_of_ble_eq_true rfl)⟩ rfl (Nat.le_of_ble_eq_true rfl) rfl (Nat.le_of_ble_eq_true rfl) (Nat.le_of_ble_eq_true rfl) trivial ?_
                refine wp.mono H ?_
                rintro v w1 ⟨v20, rfl, rfl, H⟩
                show wp 9 82 (125, [some (vr 0), some (vi a1), some (vi a2)], [vi v20], (Wd S L F G h)) _
                exact wp.fin (v := some (vi v20)) (by decide) am_m82 rfl ⟨_, rfl, Or.inl rfl, rfl⟩ H
              · rw [if_neg c17] at H
                refine pt82 (s' := (127, [some (vr 0), some (vi a1), some (vi a2)], [vi (-1)], (Wd S L F G h))) (by decide) [0, 0] rfl ⟨trivial, ⟨g5, (by omega : a2 < 0 ∨ 4 < a2)⟩⟩ ?_
                exact wp.fin (v := some (vi (-1))) (by decide) am_m82 rfl ⟨_, rfl, Or.inl rfl, rfl⟩ H
set_option maxRecDepth 100000 in
set_option maxHeartbeats 4000000 in
theorem T83_0 {S L : Nat} {F G : Nat → Nat → Int} {h : Nat → Nat → Option Nat} (hh : RfH h) {a1 : Int} {a2 : Int}  {Q : Option V2 → W2 → Prop}
    (H : (R32 a1 ∧
 (if a1 < 0 then
  Q (some (vi (-1))) (Wd S L F G h)
 else
  (R32 ((F 1 13) - 1) ∧
  (if ((F 1 13) - 1) < a1 then
   Q (some (vi (-1))) (Wd S L F G h)
  else
   (R32 a2 ∧
   (if 0 ≤ a2 then
    ((0 ≤ a1 ∧ a1 < 8) ∧
    R32 (F 9 a1.toNat) ∧
    (if (F 9 a1.toNat) ≤ a2 then
     Q (some (vi (-4))) (Wd S L F G h)
    else
     ((0 ≤ a2 ∧ a2 < 6) ∧
     Q (some (vi (F (11 + a1.toNat) a2.toNat))) (Wd S L F G h))))
   else
    Q (some (vi (-1))) (Wd S L F G h)))))))) : C83_0 a1 a2 (Wd S L F G h) Q := by
  refine pt83 (s' := (11, [some (vr 0), some (vi a1), some (vi a2)], [vi ((F 1 13) - 1), vi 0, vi a1], (Wd S L F G h))) (by decide) [0, 0, 0, 1, 0, 0, 0] rfl ⟨⟨trivial, ⟨Nat.le_of_ble_eq_true rfl, rfl, hh _ _ _ rfl⟩⟩, ⟨Nat.le_of_ble_eq_true rfl, rfl⟩⟩ ?_
  refine wp.cl am_m83 rfl am_m101 6 [vi a1, vi 0, vi ((F 1 13) - 1)] [] rfl (Nat.le_of_ble_eq_true rfl) ⟨(Nat.le_of_ble_eq_true rfl), (Nat.le_of_ble_eq_true rfl)⟩ rfl (Nat.le_of_ble_eq_true rfl) rfl (Nat.le_of_ble_eq_true rfl) (Nat.le_of_ble_eq_true rfl) trivial ?_
  obtain ⟨g1, H⟩ := H
  refine pt101 (s' := (2, [some (vi a1), some (vi 0), some (vi ((F 1 13) - 1))], [vi 0, vi a1], (Wd S L F G h))) (by decide) [0, 0] rfl trivial ?_
  by_cases c2 : a1 < 0
  · rw [if_pos c2] at H
    refine pt101 (s' := (15, [some (vi a1), some (vi 0), some (vi ((F 1 13) - 1))], [vi 0], (Wd S L F G h))) (by decide) [1, 0] rfl ⟨trivial, ⟨⟨g1, (by decide : R32 0)⟩, c2⟩⟩ ?_
    refine wp.fin (v := some (vi 0)) (by decide) am_m101 rfl ⟨_, rfl, Or.inr ⟨rfl, Or.inl rfl⟩, rfl⟩ ?_
    show wp 7 83 (14, [some (vr 0), some (vi a1), some (vi a2)], [vi 0], (Wd S L F G h)) _
    refine pt83 (s' := (22, [some (vr 0), some (vi a1), some (vi a2)], [vi (-1)], (Wd S L F G h))) (by decide) [1, 0] rfl ⟨trivial, ⟨(by decide : R32 0), (by decide : (0 : Int) = (0 : Int))⟩⟩ ?_
    exact wp.fin (v := some (vi (-1))) (by decide) am_m83 rfl ⟨_, rfl, Or.inl rfl, rfl⟩ H
  · rw [if_neg c2] at H
    obtain ⟨g3, H⟩ := H
    refine pt101 (s' := (7, [some (vi a1), some (vi 0), some (vi ((F 1 13) - 1))], [vi ((F 1 13) - 1), vi a1], (Wd S L F G h))) (by decide) [0, 0, 0] rfl ⟨trivial, ⟨⟨g1, (by decide : R32 0)⟩, c2⟩⟩ ?_
    by_cases c4 : ((F 1 13) - 1) < a1
    · rw [if_pos c4] at H
      refine pt101 (s' := (15, [some (vi a1), some (vi 0), some (vi ((F 1 13) - 1))], [vi 0], (Wd S L F G h))) (by decide) [1, 0] rfl ⟨trivial, ⟨⟨g1, g3⟩, c4⟩⟩ ?_
      refine wp.fin (v := some (vi 0)) (by decide) am_m101 rfl ⟨_, rfl, Or.inr ⟨rfl, Or.inl rfl⟩, rfl⟩ ?_
      show wp 7 83 (14, [some (vr 0), some (vi a1), some (vi a2)], [vi 0], (Wd S L F G h)) _
      refine pt83 (s' := (22, [some (vr 0), some (vi a1), some (vi a2)], [vi (-1)], (Wd S L F G h))) (by decide) [1, 0] rfl ⟨trivial, ⟨(by decide : R32 0), (by decide : (0 : Int) = (0 : Int))⟩⟩ ?_
      exact wp.fin (v := some (vi (-1))) (by decide) am_m83 rfl ⟨_, rfl, Or.inl rfl, rfl⟩ H
    · rw [if_neg c4] at H
      refine pt101 (s' := (15, [some (vi a1), some (vi 0), some (vi ((F 1 13) - 1))], [vi 1], (Wd S L F G h))) (by decide) [0, 0, 0] rfl ⟨trivial, ⟨⟨g1, g3⟩, c4⟩⟩ ?_
      refine wp.fin (v := some (vi 1)) (by decide) am_m101 rfl ⟨_, rfl, Or.inr ⟨rfl, Or.inr rfl⟩, rfl⟩ ?_
      show wp 7 83 (14, [some (vr 0), some (vi a1), some (vi a2)], [vi 1], (Wd S L F G h)) _
      obtain ⟨g5, H⟩ := H
      refine pt83 (s' := (18, [some (vr 0), some (vi a1), some (vi a2)], [vi a2], (Wd S L F G h))) (by decide) [0, 0] rfl ⟨trivial, ⟨(by decide : R32 1), (by decide : ¬ (1 : Int) = (0 : Int))⟩⟩ ?_
      by_cases c6 : 0 ≤ a2
      · rw [if_pos c6] at H
        obtain ⟨g7, H⟩ := H
        obtain ⟨g8, H⟩ := H
        refine pt83 (s' := (33, [some (vr 0), some (vi a1), some (vi a2)], [vi (F 9 a1.toNat), vi a2], (Wd S L F G h))) (by decide) [1, 0, 0, 1, 9, 0, 0] rfl ⟨⟨⟨⟨trivial, ⟨g5, c6⟩⟩, ⟨Nat.le_of_ble_eq_true rfl, rfl, hh _ _ _ rfl⟩⟩, ⟨Nat.le_of_ble_eq_true rfl, rfl, hh _ _ _ rfl⟩⟩, (ix ⟨Nat.le_of_ble_eq_true rfl, rfl⟩ g7)⟩ ?_
        by_cases c9 : (F 9 a1.toNat) ≤ a2
        · rw [if_pos c9] at H
          refine pt83 (s' := (52, [some (vr 0), some (vi a1), some (vi a2)], [vi (-4)], (Wd S L F G h))) (by decide) [1, 0] rfl ⟨trivial, ⟨⟨g5, g8⟩, c9⟩⟩ ?_
          exact wp.fin (v := some (vi (-4))) (by decide) am_m83 rfl ⟨_, rfl, Or.inl rfl, rfl⟩ H
        · rw [if_neg c9] at H
          obtain ⟨g10, H⟩ := H
          refine pt83 (s' := (52, [some (vr 0), some (vi a1), some (vi a2)], [vi (F (11 + a1.toNat) a2.toNat)], (Wd S L F G h))) (by decide) [0, 0, 1, 10, 0, (11 + a1.toNat), 0, 0, 0] rfl ⟨⟨⟨⟨⟨trivial, ⟨⟨g5, g8⟩, c9⟩⟩, ⟨Nat.le_of_ble_eq_true rfl, rfl, hh _ _ _ rfl⟩⟩, ⟨Nat.le_of_ble_eq_true rfl, rfl, hh _ _ _ rfl⟩⟩, ⟨Nat.le_of_ble_eq_true rfl, Or.inl rfl, g7, hh_let1 hh g7⟩⟩, (ix (YLP.of1 g7) g10)⟩ ?_
          exact wp.fin (v := some (vi (F (11 + a1.toNat) a2.toNat))) (by decide) am_m83 rfl ⟨_, rfl, Or.inl rfl, rfl⟩ H
      · rw [if_neg c6] at H
        refine pt83 (s' := (22, [some (vr 0), some (vi a1), some (vi a2)], [vi (-1)], (Wd S L F G h))) (by decide) [0, 0] rfl ⟨trivial, ⟨g5, c6⟩⟩ ?_
        exact wp.fin (v := some (vi (-1))) (by decide) am_m83 rfl ⟨_, rfl, Or.inl rfl, rfl⟩ H
set_option maxRecDepth 100000 in
set_option maxHeartbeats 4000000 in
theorem T84_0 {S L : Nat} {F G : Nat → Nat → Int} {h : Nat → Nat → Option Nat} (hh : RfH h) {a1 : Int}  {Q : Option V2 → W2 → Prop}
    (H : (R32 a1 ∧
 (if a1 = 0 then
  (R32 (F 1 13) ∧
  (if (F 1 13) = 0 then
   Q (some (vi (-4))) (Wd S L F G h)
  else
   C43_0  (Wd S L F G h) (fun v w1 => ∃ (v5 : Int), v = some (vi v5) ∧ w1 = (Wd S L F G h) ∧
    (R32 v5 ∧
    C45_0  (Wd S L F G h) (fun v w1 => ∃ (v7 : Int), v = some (vi v7) ∧ w1 = (Wd S L F G h) ∧
     (R32 v7 ∧
     C105_0 v5 v7 a1 (Wd S L F G h) (fun v w1 => ∃ (v9 : Int), v = some (vj v9) ∧ w1 = (Wd S L F G h) ∧
      Q (some (vi v9)) (Wd S L F G h))))))))
 else
  (if a1 = 1 then
   (R32 (F 1 13) ∧
   (if (F 1 13) = 0 then
    Q (some (vi (-4))) (Wd S L F G h)
   else
    C43_0  (Wd S L F G h) (fun v w1 => ∃ (v13 : Int), v = some (vi v13) ∧ w1 = (Wd S L F G h) ∧
     (R32 v13 ∧
     C45_0  (Wd S L F G h) (fun v w1 => ∃ (v15 : Int), v = some (vi v15) ∧ w1 = (Wd S L F G h) ∧
      (R32 v15 ∧
      C105_0 v13 v15 a1 (Wd S L F G h) (fun v w1 => ∃ (v17 : Int), v = some (vj v17) ∧ w1 = (Wd S L F G h) ∧
       Q (some (vi v17)) (Wd S L F G h))))))))
  else
   Q (some (vi (-1))) (Wd S L F G h))))) : C84_0 a1 (Wd S L F G h) Q := by
  refine pt84 (s' := (1, [some (vr 0), some (vi a1)], [vi a1], (Wd S L F G h))) (by decide) [0] rfl trivial ?_
  refine wp.cl am_m84 rfl am_m103 6 [vi a1] [] rfl (Nat.le_of_ble_eq_true rfl) ⟨(Nat.le_of_ble_eq_true rfl), (Nat.le_of_ble_eq_true rfl)⟩ rfl (Nat.le_of_ble_eq_true rfl) rfl (Nat.le_of_ble_eq_true rfl) (Nat.le_of_ble_eq_true rfl) trivial ?_
  obtain ⟨g1, H⟩ := H
  refine pt103 (s' := (1, [some (vi a1)], [vi a1], (Wd S L F G h))) (by decide) [0] rfl trivial ?_
  by_cases c2 : a1 = 0
  · rw [if_pos c2] at H
    refine pt103 (s' := (14, [some (vi a1)], [vi 1], (Wd S L F G h))) (by decide) [1, 0, 0] rfl ⟨trivial, ⟨g1, c2⟩⟩ ?_
    refine wp.fin (v := some (vi 1)) (by decide) am_m103 rfl ⟨_, rfl, Or.inr ⟨rfl, Or.inr rfl⟩, rfl⟩ ?_
    show wp 10 84 (4, [some (vr 0), some (vi a1)], [vi 1], (Wd S L F G h)) _
    obtain ⟨g3, H⟩ := H
    refine pt84 (s' := (16, [some (vr 0), some (vi a1)], [vi (F 1 13)], (Wd S L F G h))) (by decide) [1, 0, 1, 0] rfl ⟨⟨⟨trivial, ⟨(by decide : R32 1), (by decide : ¬ (1 : Int) = (0 : Int))⟩⟩, ⟨Nat.le_of_ble_eq_true rfl, rfl, hh _ _ _ rfl⟩⟩, ⟨Nat.le_of_ble_eq_true rfl, rfl⟩⟩ ?_
    by_cases c4 : (F 1 13) = 0
    · rw [if_pos c4] at H
      refine pt84 (s' := (21, [some (vr 0), some (vi a1)], [vi (-4)], (Wd S L F G h))) (by decide) [0, 0] rfl ⟨trivial, ⟨g3, c4⟩⟩ ?_
      exact wp.fin (v := some (vi (-4))) (by decide) am_m84 rfl ⟨_, rfl, Or.inl rfl, rfl⟩ H
    · rw [if_neg c4] at H
      refine pt84 (s' := (26, [some (vr 0), some (vi a1)], [vr 1], (Wd S L F G h))) (by decide) [1, 0, 1] rfl ⟨⟨trivial, ⟨g3, c4⟩⟩, ⟨Nat.le_of_ble_eq_true rfl, rfl, hh _ _ _ rfl⟩⟩ ?_
      refine wp.cl am_m84 rfl am_m43 9 [vr 1] [] rfl (Nat.le_of_ble_eq_true rfl) ⟨(Nat.le_of_ble_eq_true rfl), (Nat.le_of_ble_eq_true rfl)⟩ rfl (Nat.le_of_ble_eq_true rfl) rfl (Nat.le_of_ble_eq_true rfl) (Nat.le_of_ble_eq_true rfl) ⟨_, _, rfl, Nat.le_of_ble_eq_true rfl, rfl⟩ ?_
      refine wp.mono H ?_
      rintro v w1 ⟨v5, rfl, rfl, H⟩
      show wp 10 84 (29, [some (vr 0), some (vi a1)], [vi v5], (Wd S L F G h)) _
      obtain ⟨g6, H⟩ := H
      refine pt84 (s' := (34, [some (vr 0), some (vi a1)], [vr 1, vj v5], (Wd S L F G h))) (by decide) [0, 0, 1] rfl ⟨⟨trivial, g6⟩, ⟨Nat.le_of_ble_eq_true rfl, rfl, hh _ _ _ rfl⟩⟩ ?_
      refine wp.cl am_m84 rfl am_m45 6 [vr 1] [vj v5] rfl (Nat.le_of_ble_eq_true rfl) ⟨(Nat.le_of_ble_eq_true rfl), (Nat.le_of_ble_eq_true rfl)⟩ rfl (Nat.le_of_ble_eq_true rfl) rfl (Nat.le_of_ble_eq_true rfl) (Nat.le_of_ble_eq_true rfl) ⟨_, _, rfl, Nat.le_of_ble_eq_true rfl, rfl⟩ ?_
      refine wp.mono H ?_
      rintro v w1 ⟨v7, rfl, rfl, H⟩
      show wp 10 84 (37, [some (vr 0), some (vi a1)], [vi v7, vj v5], (Wd S L F G h)) _
      obtain ⟨g8, H⟩ := H
      refine pt84 (s' := (39, [some (vr 0), some (vi a1)], [vi a1, vj v7, vj v5], (Wd S L F G h))) (by decide) [0, 0] rfl ⟨trivial, g8⟩ ?_
      refine wp.cl am_m84 rfl am_m105 7 [vj v5, vj v7, vi a1] [] rfl (Nat.le_of_ble_eq_true rfl) ⟨(Nat.le_of_ble_eq_true rfl), (Nat.le_of_ble_eq_true rfl)⟩ rfl (Nat.le_of_ble_eq_true rfl) rfl (Nat.le_of_ble_eq_true rfl) (Nat.le_of_ble_eq_true rfl) trivial ?_
      refine wp.mono H ?_
      rintro v w1 ⟨v9, rfl, rfl, H⟩
      show wp 10 84 (42, [some (vr 0), some (vi a1)], [vj v9], (Wd S L F G h)) _
      refine pt84 (s' := (43, [some (vr 0), some (vi a1)], [vi v9], (Wd S L F G h))) (by decide) [0] rfl trivial ?_
      exact wp.fin (v := some (vi v9)) (by decide) am_m84 rfl ⟨_, rfl, Or.inl rfl, rfl⟩ H
  · rw [if_neg c2] at H
    refine pt103 (s' := (6, [some (vi a1)], [vi 1, vi a1], (Wd S L F G h))) (by decide) [0, 0, 0] rfl ⟨trivial, ⟨g1, c2⟩⟩ ?_
    by_cases c10 : a1 = 1
    · rw [if_pos c10] at H
      refine pt103 (s' := (14, [some (vi a1)], [vi 1], (Wd S L F G h))) (by decide) [0, 0, 0] rfl ⟨trivial, ⟨⟨g1, (by decide : R32 1)⟩, c10⟩⟩ ?_
      refine wp.fin (v := some (vi 1)) (by decide) am_m103 rfl ⟨_, rfl, Or.inr ⟨rfl, Or.inr rfl⟩, rfl⟩ ?_
      show wp 10 84 (4, [some (vr 0), some (vi a1)], [vi 1], (Wd S L F G h)) _
      obtain ⟨g11, H⟩ := H
      refine pt84 (s' := (16, [some (vr 0), some (vi a1)], [vi (F 1 13)], (Wd S L F G h))) (by decide) [1, 0, 1, 0] rfl ⟨⟨⟨trivial, ⟨(by decide : R32 1), (by decide : ¬ (1 : Int) = (0 : Int))⟩⟩, ⟨Nat.le_of_ble_eq_true rfl, rfl, hh _ _ _ rfl⟩⟩, ⟨Nat.le_of_ble_eq_true rfl, rfl⟩⟩ ?_
      by_cases c12 : (F 1 13) = 0
      · rw [if_pos c12] at H
        refine pt84 (s' := (21, [some (vr 0), some (vi a1)], [vi (-4)], (Wd S L F G h))) (by decide) [0, 0] rfl ⟨trivial, ⟨g11, c12⟩⟩ ?_
        exact wp.fin (v := some (vi (-4))) (by decide) am_m84 rfl ⟨_, rfl, Or.inl rfl, rfl⟩ H
      · rw [if_neg c12] at H
        refine pt84 (s' := (26, [some (vr 0), some (vi a1)], [vr 1], (Wd S L F G h))) (by decide) [1, 0, 1] rfl ⟨⟨trivial, ⟨g11, c12⟩⟩, ⟨Nat.le_of_ble_eq_true rfl, rfl, hh _ _ _ rfl⟩⟩ ?_
        refine wp.cl am_m84 rfl am_m43 9 [vr 1] [] rfl (Nat.le_of_ble_eq_true rfl) ⟨(Nat.le_of_ble_eq_true rfl), (Nat.le_of_ble_eq_true rfl)⟩ rfl (Nat.le_of_ble_eq_true rfl) rfl (Nat.le_of_ble_eq_true rfl) (Nat.le_of_ble_eq_true rfl) ⟨_, _, rfl, Nat.le_of_ble_eq_true rfl, rfl⟩ ?_
        refine wp.mono H ?_
        rintro v w1 ⟨v13, rfl, rfl, H⟩
        show wp 10 84 (29, [some (vr 0), some (vi a1)], [vi v13], (Wd S L F G h)) _
        obtain ⟨g14, H⟩ := H
        refine pt84 (s' := (34, [some (vr 0), some (vi a1)], [vr 1, vj v13], (Wd S L F G h))) (by decide) [0, 0, 1] rfl ⟨⟨trivial, g14⟩, ⟨Nat.le_of_ble_eq_true rfl, rfl, hh _ _ _ rfl⟩⟩ ?_
        refine wp.cl am_m84 rfl am_m45 6 [vr 1] [vj v13] rfl (Nat.le_of_ble_eq_true rfl) ⟨(Nat.le_of_ble_eq_true rfl), (Nat.le_of_ble_eq_true rfl)⟩ rfl (Nat.le_of_ble_eq_true rfl) rfl (Nat.le_of_ble_eq_true rfl) (Nat.le_of_ble_eq_true rfl) ⟨_, _, rfl, Nat.le_of_ble_eq_true rfl, rfl⟩ ?_
        refine wp.mono H ?_
        rintro v w1 ⟨v15, rfl, rfl, H⟩
        show wp 10 84 (37, [some (vr 0), some (vi a1)], [vi v15, vj v13], (Wd S L F G h)) _
        obtain ⟨g16, H⟩ := H
        refine pt84 (s' := (39, [some (vr 0), some (vi a1)], [vi a1, vj v15, vj v13], (Wd S L F G h))) (by decide) [0, 0] rfl ⟨trivial, g16⟩ ?_
        refine wp.cl am_m84 rfl am_m105 7 [vj v13, vj v15, vi a1] [] rfl (Nat.le_of_ble_eq_true rfl) ⟨(Nat.le_of_ble_eq_true rfl), (Nat.le_of_ble_eq_true rfl)⟩ rfl (Nat.le_of_ble_eq_true rfl) rfl (Nat.le_of_ble_eq_true rfl) (Nat.le_of_ble_eq_true rfl) trivial ?_
        refine wp.mono H ?_
        rintro v w1 ⟨v17, rfl, rfl, H⟩
        show wp 10 84 (42, [some (vr 0), some (vi a1)], [vj v17], (Wd S L F G h)) _
        refine pt84 (s' := (43, [some (vr 0), some (vi a1)], [vi v17], (Wd S L F G h))) (by decide) [0] rfl trivial ?_
        exact wp.fin (v := some (vi v17)) (by decide) am_m84 rfl ⟨_, rfl, Or.inl rfl, rfl⟩ H
    · rw [if_neg c10] at H
      refine pt103 (s' := (14, [some (vi a1)], [vi 0], (Wd S L F G h))) (by decide) [1, 0] rfl ⟨trivial, ⟨⟨g1, (by decide : R32 1)⟩, c10⟩⟩ ?_
      refine wp.fin (v := some (vi 0)) (by decide) am_m103 rfl ⟨_, rfl, Or.inr ⟨rfl, Or.inl rfl⟩, rfl⟩ ?_
      show wp 10 84 (4, [some (vr 0), some (vi a1)], [vi 0], (Wd S L F G h)) _
      refine pt84 (s' := (8, [some (vr 0), some (vi a1)], [vi (-1)], (Wd S L F G h))) (by decide) [0, 0] rfl ⟨trivial, ⟨(by decide : R32 0), (by decide : (0 : Int) = (0 : Int))⟩⟩ ?_
      exact wp.fin (v := some (vi (-1))) (by decide) am_m84 rfl ⟨_, rfl, Or.inl rfl, rfl⟩ H
set_option maxRecDepth 100000 in
set_option maxHeartbeats 4000000 in
theorem T85_0 {S L : Nat} {F G : Nat → Nat → Int} {h : Nat → Nat → Option Nat} (hh : RfH h) {a1 : Int}  {Q : Option V2 → W2 → Prop}
    (H : (R32 a1 ∧
 (if a1 < 32 then
  Q (some (vi (-1))) (Wd S L F G h)
 else
  (if 126 < a1 then
   Q (some (vi (-1))) (Wd S L F G h)
  else
   C48_0 a1 (Wd S L F G h) (fun v w1 => ∃ (v4 : Int) (F5 : Nat → Nat → Int), v = some (vi v4) ∧ w1 = (Wd S L F5 G h) ∧
    Q (some (vi v4)) (Wd S L F5 G h)))))) : C85_0 a1 (Wd S L F G h) Q := by
  refine pt85 (s' := (5, [some (vr 0), some (vi a1)], [vi 126, vi 32, vi a1], (Wd S L F G h))) (by decide) [0, 0, 0] rfl trivial ?_
  refine wp.cl am_m85 rfl am_m101 6 [vi a1, vi 32, vi 126] [] rfl (Nat.le_of_ble_eq_true rfl) ⟨(Nat.le_of_ble_eq_true rfl), (Nat.le_of_ble_eq_true rfl)⟩ rfl (Nat.le_of_ble_eq_true rfl) rfl (Nat.le_of_ble_eq_true rfl) (Nat.le_of_ble_eq_true rfl) trivial ?_
  obtain ⟨g1, H⟩ := H
  refine pt101 (s' := (2, [some (vi a1), some (vi 32), some (vi 126)], [vi 32, vi a1], (Wd S L F G h))) (by decide) [0, 0] rfl trivial ?_
  by_cases c2 : a1 < 32
  · rw [if_pos c2] at H
    refine pt101 (s' := (15, [some (vi a1), some (vi 32), some (vi 126)], [vi 0], (Wd S L F G h))) (by decide) [1, 0] rfl ⟨trivial, ⟨⟨g1, (by decide : R32 32)⟩, c2⟩⟩ ?_
    refine wp.fin (v := some (vi 0)) (by decide) am_m101 rfl ⟨_, rfl, Or.inr ⟨rfl, Or.inl rfl⟩, rfl⟩ ?_
    show wp 7 85 (8, [some (vr 0), some (vi a1)], [vi 0], (Wd S L F G h)) _
    refine pt85 (s' := (12, [some (vr 0), some (vi a1)], [vi (-1)], (Wd S L F G h))) (by decide) [0, 0] rfl ⟨trivial, ⟨(by decide : R32 0), (by decide : (0 : Int) = (0 : Int))⟩⟩ ?_
    exact wp.fin (v := some (vi (-1))) (by decide) am_m85 rfl ⟨_, rfl, Or.inl rfl, rfl⟩ H
  · rw [if_neg c2] at H
    refine pt101 (s' := (7, [some (vi a1), some (vi 32), some (vi 126)], [vi 126, vi a1], (Wd S L F G h))) (by decide) [0, 0, 0] rfl ⟨trivial, ⟨⟨g1, (by decide : R32 32)⟩, c2⟩⟩ ?_
    by_cases c3 : 126 < a1
    · rw [if_pos c3] at H
      refine pt101 (s' := (15, [some (vi a1), some (vi 32), some (vi 126)], [vi 0], (Wd S L F G h))) (by decide) [1, 0] rfl ⟨trivial, ⟨⟨g1, (by decide : R32 126)⟩, c3⟩⟩ ?_
      refine wp.fin (v := some (vi 0)) (by decide) am_m101 rfl ⟨_, rfl, Or.inr ⟨rfl, Or.inl rfl⟩, rfl⟩ ?_
      show wp 7 85 (8, [some (vr 0), some (vi a1)], [vi 0], (Wd S L F G h)) _
      refine pt85 (s' := (12, [some (vr 0), some (vi a1)], [vi (-1)], (Wd S L F G h))) (by decide) [0, 0] rfl ⟨trivial, ⟨(by decide : R32 0), (by decide : (0 : Int) = (0 : Int))⟩⟩ ?_
      exact wp.fin (v := some (vi (-1))) (by decide) am_m85 rfl ⟨_, rfl, Or.inl rfl, rfl⟩ H
    · rw [if_neg c3] at H
      refine pt101 (s' := (15, [some (vi a1), some (vi 32), some (vi 126)], [vi 1], (Wd S L F G h))) (by decide) [0, 0, 0] rfl ⟨trivial, ⟨⟨g1, (by decide : R32 126)⟩, c3⟩⟩ ?_
      refine wp.fin (v := some (vi 1)) (by decide) am_m101 rfl ⟨_, rfl, Or.inr ⟨rfl, Or.inr rfl⟩, rfl⟩ ?_
      show wp 7 85 (8, [some (vr 0), some (vi a1)], [vi 1], (Wd S L F G h)) _
      refine pt85 (s' := (18, [some (vr 0), some (vi a1)], [vi a1, vr 284], (Wd S L F G h))) (by decide) [1, 0, 284, 0] rfl ⟨⟨trivial, ⟨(by decide : R32 1), (by decide : ¬ (1 : Int) = (0 : Int))⟩⟩, ⟨Nat.le_of_ble_eq_true rfl, rfl, hh _ _ _ rfl⟩⟩ ?_
      refine wp.cl am_m85 rfl am_m48 6 [vr 284, vi a1] [] rfl (Nat.le_of_ble_eq_true rfl) ⟨(Nat.le_of_ble_eq_true rfl), (Nat.le_of_ble_eq_true rfl)⟩ rfl (Nat.le_of_ble_eq_true rfl) rfl (Nat.le_of_ble_eq_true rfl) (Nat.le_of_ble_eq_true rfl) ⟨_, _, rfl, Nat.le_of_ble_eq_true rfl, rfl⟩ ?_
      refine wp.mono H ?_
      rintro v w1 ⟨v4, F5, rfl, rfl, H⟩
      show wp 7 85 (21, [some (vr 0), some (vi a1)], [vi v4], (Wd S L F5 G h)) _
      exact wp.fin (v := some (vi v4)) (by decide) am_m85 rfl ⟨_, rfl, Or.inl rfl, rfl⟩ H
set_option maxRecDepth 100000 in
set_option maxHeartbeats 4000000 in
theorem T86_0 {S L : Nat} {F G : Nat → Nat → Int} {h : Nat → Nat → Option Nat} (hh : RfH h)   {Q : Option V2 → W2 → Prop}
    (H : C50_0  (Wd S L F G h) (fun v w1 => ∃ (F1 : Nat → Nat → Int), v = none ∧ w1 = (Wd S L F1 G h) ∧
  (R32 (F1 284 3) ∧
  (if (F1 284 3) < 0 then
   C24_0 19 1 (Wd S L (am_up F1 284 1 0) G h) (fun v w1 => ∃ (F4 : Nat → Nat → Int), v = none ∧ w1 = (Wd S L F4 G h) ∧
    C99_0  (Wd S L F4 G h) (fun v w1 => ∃ (v5 : Int) (F6 : Nat → Nat → Int), v = some (vi v5) ∧ w1 = (Wd S L F6 G h) ∧
     (R32 v5 ∧
     (if v5 < 0 then
      Q (some (vi v5)) (Wd S L F6 G h)
     else
      C14_0 19 (Wd S L F6 G h) (fun v w1 => ∃ (F9 : Nat → Nat → Int) (h10 : Nat → Nat → Option Nat), v = none ∧ w1 = (Wd S L F9 G h10) ∧ RfH h10 ∧
       Q (some (vi v5)) (Wd S L F9 G h10))))))
  else
   Q (some (vi ((-20) - (F1 284 3)))) (Wd S L (am_up F1 284 1 0) G h))))) : C86_0  (Wd S L F G h) Q := by
  refine pt86 (s' := (4, [some (vr 0)], [vr 284], (Wd S L F G h))) (by decide) [0, 284] rfl ⟨trivial, ⟨Nat.le_of_ble_eq_true rfl, rfl, hh _ _ _ rfl⟩⟩ ?_
  refine wp.cl am_m86 rfl am_m50 10 [vr 284] [] rfl (Nat.le_of_ble_eq_true rfl) ⟨(Nat.le_of_ble_eq_true rfl), (Nat.le_of_ble_eq_true rfl)⟩ rfl (Nat.le_of_ble_eq_true rfl) rfl (Nat.le_of_ble_eq_true rfl) (Nat.le_of_ble_eq_true rfl) ⟨_, _, rfl, Nat.le_of_ble_eq_true rfl, rfl⟩ ?_
  refine wp.mono H ?_
  rintro v w1 ⟨F1, rfl, rfl, H⟩
  show wp 11 86 (7, [some (vr 0)], [], (Wd S L F1 G h)) _
  refine pt86 (s' := (11, [some (vr 0)], [vr 284], (Wd S L F1 G h))) (by decide) [0, 284] rfl ⟨trivial, ⟨Nat.le_of_ble_eq_true rfl, rfl, hh _ _ _ rfl⟩⟩ ?_
  refine wp.cl am_m86 rfl am_m49 6 [vr 284] [] rfl (Nat.le_of_ble_eq_true rfl) ⟨(Nat.le_of_ble_eq_true rfl), (Nat.le_of_ble_eq_true rfl)⟩ rfl (Nat.le_of_ble_eq_true rfl) rfl (Nat.le_of_ble_eq_true rfl) (Nat.le_of_ble_eq_true rfl) ⟨_, _, rfl, Nat.le_of_ble_eq_true rfl, rfl⟩ ?_
  refine pt49 (s' := (5, [some (vr 284)], [], (Wd S L (am_up F1 284 1 0) G h))) (by decide) [0, 0, 0] rfl ⟨trivial, ⟨Nat.le_of_ble_eq_true rfl, rfl, fun h => by cases h⟩⟩ ?_
  refine wp.fin (v := none) (by decide) am_m49 rfl ⟨rfl, rfl, rfl⟩ ?_
  show wp 11 86 (14, [some (vr 0)], [], (Wd S L (am_up F1 284 1 0) G h)) _
  obtain ⟨g2, H⟩ := H
  refine pt86 (s' := (21, [some (vr 0)], [vi (F1 284 3)], (Wd S L (am_up F1 284 1 0) G h))) (by decide) [0, 284, 0] rfl ⟨⟨trivial, ⟨Nat.le_of_ble_eq_true rfl, rfl, hh _ _ _ rfl⟩⟩, ⟨Nat.le_of_ble_eq_true rfl, rfl⟩⟩ ?_
  by_cases c3 : (F1 284 3) < 0
  · rw [if_pos c3] at H
    refine pt86 (s' := (43, [some (vr 0)], [vr 1, vr 19], (Wd S L (am_up F1 284 1 0) G h))) (by decide) [1, 0, 19, 0, 1] rfl ⟨⟨⟨trivial, ⟨g2, c3⟩⟩, ⟨Nat.le_of_ble_eq_true rfl, rfl, hh _ _ _ rfl⟩⟩, ⟨Nat.le_of_ble_eq_true rfl, rfl, hh _ _ _ rfl⟩⟩ ?_
    refine wp.cl am_m86 rfl am_m24 6 [vr 19, vr 1] [] rfl (Nat.le_of_ble_eq_true rfl) ⟨(Nat.le_of_ble_eq_true rfl), (Nat.le_of_ble_eq_true rfl)⟩ rfl (Nat.le_of_ble_eq_true rfl) rfl (Nat.le_of_ble_eq_true rfl) (Nat.le_of_ble_eq_true rfl) ⟨_, _, rfl, Nat.le_of_ble_eq_true rfl, rfl⟩ ?_
    refine wp.mono H ?_
    rintro v w1 ⟨F4, rfl, rfl, H⟩
    show wp 11 86 (46, [some (vr 0)], [], (Wd S L F4 G h)) _
    refine pt86 (s' := (48, [some (vr 0)], [vr 0, vr 0], (Wd S L F4 G h))) (by decide) [0, 0] rfl trivial ?_
    refine wp.cl am_m86 rfl am_m99 10 [vr 0] [vr 0] rfl (Nat.le_of_ble_eq_true rfl) ⟨(Nat.le_of_ble_eq_true rfl), (Nat.le_of_ble_eq_true rfl)⟩ rfl (Nat.le_of_ble_eq_true rfl) rfl (Nat.le_of_ble_eq_true rfl) (Nat.le_of_ble_eq_true rfl) ⟨_, _, rfl, Nat.le_of_ble_eq_true rfl, rfl⟩ ?_
    refine wp.mono H ?_
    rintro v w1 ⟨v5, F6, rfl, rfl, H⟩
    show wp 11 86 (51, [some (vr 0)], [vi v5, vr 0], (Wd S L F6 G h)) _
    refine wp.cl am_m86 rfl am_m98 8 [vr 0, vi v5] [] rfl (Nat.le_of_ble_eq_true rfl) ⟨(Nat.le_of_ble_eq_true rfl), (Nat.le_of_ble_eq_true rfl)⟩ rfl (Nat.le_of_ble_eq_true rfl) rfl (Nat.le_of_ble_eq_true rfl) (Nat.le_of_ble_eq_true rfl) ⟨_, _, rfl, Nat.le_of_ble_eq_true rfl, rfl⟩ ?_
    obtain ⟨g7, H⟩ := H
    refine pt98 (s' := (1, [some (vr 0), some (vi v5)], [vi v5], (Wd S L F6 G h))) (by decide) [0] rfl trivial ?_
    by_cases c8 : v5 < 0
    · rw [if_pos c8] at H
      refine pt98 (s' := (16, [some (vr 0), some (vi v5)], [vi v5], (Wd S L F6 G h))) (by decide) [1, 0] rfl ⟨trivial, ⟨g7, c8⟩⟩ ?_
      refine wp.fin (v := some (vi v5)) (by decide) am_m98 rfl ⟨_, rfl, Or.inl rfl, rfl⟩ ?_
      show wp 11 86 (54, [some (vr 0)], [vi v5], (Wd S L F6 G h)) _
      exact wp.fin (v := some (vi v5)) (by decide) am_m86 rfl ⟨_, rfl, Or.inl rfl, rfl⟩ H
    · rw [if_neg c8] at H
      refine pt98 (s' := (12, [some (vr 0), some (vi v5)], [vr 19, vr 37], (Wd S L F6 G h))) (by decide) [0, 0, 37, 0, 19] rfl ⟨⟨⟨trivial, ⟨g7, c8⟩⟩, ⟨Nat.le_of_ble_eq_true rfl, rfl, hh _ _ _ rfl⟩⟩, ⟨Nat.le_of_ble_eq_true rfl, rfl, hh _ _ _ rfl⟩⟩ ?_
      refine wp.cl am_m98 rfl am_m14 7 [vr 37, vr 19] [] rfl (Nat.le_of_ble_eq_true rfl) ⟨(Nat.le_of_ble_eq_true rfl), (Nat.le_of_ble_eq_true rfl)⟩ rfl (Nat.le_of_ble_eq_true rfl) rfl (Nat.le_of_ble_eq_true rfl) (Nat.le_of_ble_eq_true rfl) ⟨_, _, rfl, Nat.le_of_ble_eq_true rfl, rfl⟩ ?_
      refine wp.mono H ?_
      rintro v w1 ⟨F9, h10, rfl, rfl, r11, H⟩
      show wp 8 98 (15, [some (vr 0), some (vi v5)], [], (Wd S L F9 G h10)) _
      refine pt98 (s' := (16, [some (vr 0), some (vi v5)], [vi v5], (Wd S L F9 G h10))) (by decide) [0] rfl trivial ?_
      refine wp.fin (v := some (vi v5)) (by decide) am_m98 rfl ⟨_, rfl, Or.inl rfl, rfl⟩ ?_
      show wp 11 86 (54, [some (vr 0)], [vi v5], (Wd S L F9 G h10)) _
      exact wp.fin (v := some (vi v5)) (by decide) am_m86 rfl ⟨_, rfl, Or.inl rfl, rfl⟩ H
  · rw [if_neg c3] at H
    refine pt86 (s' := (34, [some (vr 0)], [vi ((-20) - (F1 284 3))], (Wd S L (am_up F1 284 1 0) G h))) (by decide) [0, 0, 0, 284, 0, 0] rfl ⟨⟨⟨trivial, ⟨g2, c3⟩⟩, ⟨Nat.le_of_ble_eq_true rfl, rfl, hh _ _ _ rfl⟩⟩, ⟨Nat.le_of_ble_eq_true rfl, rfl⟩⟩ ?_
    exact wp.fin (v := some (vi ((-20) - (F1 284 3)))) (by decide) am_m86 rfl ⟨_, rfl, Or.inl rfl, rfl⟩ H
set_option maxRecDepth 100000 in
set_option maxHeartbeats 4000000 in
theorem T87_0 {S L : Nat} {F G : Nat → Nat → Int} {h : Nat → Nat → Option Nat} (hh : RfH h) {a1 : Int}  {Q : Option V2 → W2 → Prop}
    (H : (R32 a1 ∧
 (if a1 < 1 then
  Q (some (vi (-1))) (Wd S L F G h)
 else
  (if 40 < a1 then
   Q (some (vi (-1))) (Wd S L F G h)
  else
   C87_14 a1 0 (Wd S L F G h) Q)))) : C87_0 a1 (Wd S L F G h) Q := by
  refine pt87 (s' := (4, [some (vr 0), some (vi a1), none], [vi 40, vi 1, vi a1], (Wd S L F G h))) (by decide) [0, 0, 0] rfl trivial ?_
  refine wp.cl am_m87 rfl am_m101 6 [vi a1, vi 1, vi 40] [] rfl (Nat.le_of_ble_eq_true rfl) ⟨(Nat.le_of_ble_eq_true rfl), (Nat.le_of_ble_eq_true rfl)⟩ rfl (Nat.le_of_ble_eq_true rfl) rfl (Nat.le_of_ble_eq_true rfl) (Nat.le_of_ble_eq_true rfl) trivial ?_
  obtain ⟨g1, H⟩ := H
  refine pt101 (s' := (2, [some (vi a1), some (vi 1), some (vi 40)], [vi 1, vi a1], (Wd S L F G h))) (by decide) [0, 0] rfl trivial ?_
  by_cases c2 : a1 < 1
  · rw [if_pos c2] at H
    refine pt101 (s' := (15, [some (vi a1), some (vi 1), some (vi 40)], [vi 0], (Wd S L F G h))) (by decide) [1, 0] rfl ⟨trivial, ⟨⟨g1, (by decide : R32 1)⟩, c2⟩⟩ ?_
    refine wp.fin (v := some (vi 0)) (by decide) am_m101 rfl ⟨_, rfl, Or.inr ⟨rfl, Or.inl rfl⟩, rfl⟩ ?_
    show wp 11 87 (7, [some (vr 0), some (vi a1), none], [vi 0], (Wd S L F G h)) _
    refine pt87 (s' := (11, [some (vr 0), some (vi a1), none], [vi (-1)], (Wd S L F G h))) (by decide) [0, 0] rfl ⟨trivial, ⟨(by decide : R32 0), (by decide : (0 : Int) = (0 : Int))⟩⟩ ?_
    exact wp.fin (v := some (vi (-1))) (by decide) am_m87 rfl ⟨_, rfl, Or.inl rfl, rfl⟩ H
  · rw [if_neg c2] at H
    refine pt101 (s' := (7, [some (vi a1), some (vi 1), some (vi 40)], [vi 40, vi a1], (Wd S L F G h))) (by decide) [0, 0, 0] rfl ⟨trivial, ⟨⟨g1, (by decide : R32 1)⟩, c2⟩⟩ ?_
    by_cases c3 : 40 < a1
    · rw [if_pos c3] at H
      refine pt101 (s' := (15, [some (vi a1), some (vi 1), some (vi 40)], [vi 0], (Wd S L F G h))) (by decide) [1, 0] rfl ⟨trivial, ⟨⟨g1, (by decide : R32 40)⟩, c3⟩⟩ ?_
      refine wp.fin (v := some (vi 0)) (by decide) am_m101 rfl ⟨_, rfl, Or.inr ⟨rfl, Or.inl rfl⟩, rfl⟩ ?_
      show wp 11 87 (7, [some (vr 0), some (vi a1), none], [vi 0], (Wd S L F G h)) _
      refine pt87 (s' := (11, [some (vr 0), some (vi a1), none], [vi (-1)], (Wd S L F G h))) (by decide) [0, 0] rfl ⟨trivial, ⟨(by decide : R32 0), (by decide : (0 : Int) = (0 : Int))⟩⟩ ?_
      exact wp.fin (v := some (vi (-1))) (by decide) am_m87 rfl ⟨_, rfl, Or.inl rfl, rfl⟩ H
    · rw [if_neg c3] at H
      refine pt101 (s' := (15, [some (vi a1), some (vi 1), some (vi 40)], [vi 1], (Wd S L F G h))) (by decide) [0, 0, 0] rfl ⟨trivial, ⟨⟨g1, (by decide : R32 40)⟩, c3⟩⟩ ?_
      refine wp.fin (v := some (vi 1)) (by decide) am_m101 rfl ⟨_, rfl, Or.inr ⟨rfl, Or.inr rfl⟩, rfl⟩ ?_
      show wp 11 87 (7, [some (vr 0), some (vi a1), none], [vi 1], (Wd S L F G h)) _
      refine pt87 (s' := (14, [some (vr 0), some (vi a1), some (vi 0)], [], (Wd S L F G h))) (by decide) [1, 0, 0] rfl ⟨trivial, ⟨(by decide : R32 1), (by decide : ¬ (1 : Int) = (0 : Int))⟩⟩ ?_
      exact wp.weak (a := [some (vr 0), some (vi a1), some (vi 0)]) ⟨rfl, rfl, rfl, trivial⟩ H
set_option maxRecDepth 100000 in
set_option maxHeartbeats 4000000 in
theorem T87_14 {S L : Nat} {F G : Nat → Nat → Int} {h : Nat → Nat → Option Nat} (hh : RfH h) {x1 : Int} {x2 : Int}  {Q : Option V2 → W2 → Prop}
    (H : (R32 x2 ∧
 R32 x1 ∧
 (if x1 ≤ x2 then
  Q (some (vi (F 1 6))) (Wd S L F G h)
 else
  C14_0 1 (Wd S L F G h) (fun v w1 => ∃ (F4 : Nat → Nat → Int) (h5 : Nat → Nat → Option Nat), v = none ∧ w1 = (Wd S L F4 G h5) ∧ RfH h5 ∧
   C46_0  (Wd S L F4 G h5) (fun v w1 => ∃ (F7 : Nat → Nat → Int), v = none ∧ w1 = (Wd S L F7 G h5) ∧
    C87_14 x1 (x2 + 1) (Wd S L F7 G h5) Q))))) : C87_14 x1 x2 (Wd S L F G h) Q := by
  obtain ⟨g1, H⟩ := H
  obtain ⟨g2, H⟩ := H
  refine pt87 (s' := (16, [some (vr 0), some (vi x1), some (vi x2)], [vi x1, vi x2], (Wd S L F G h))) (by decide) [0, 0] rfl trivial ?_
  by_cases c3 : x1 ≤ x2
  · rw [if_pos c3] at H
    refine pt87 (s' := (50, [some (vr 0), some (vi x1), some (vi x2)], [vi (F 1 6)], (Wd S L F G h))) (by decide) [1, 0, 1, 0] rfl ⟨⟨⟨trivial, ⟨⟨g1, g2⟩, c3⟩⟩, ⟨Nat.le_of_ble_eq_true rfl, rfl, hh _ _ _ rfl⟩⟩, ⟨Nat.le_of_ble_eq_true rfl, rfl⟩⟩ ?_
    exact wp.fin (v := some (vi (F 1 6))) (by decide) am_m87 rfl ⟨_, rfl, Or.inl rfl, rfl⟩ H
  · rw [if_neg c3] at H
    refine pt87 (s' := (27, [some (vr 0), some (vi x1), some (vi x2)], [vr 1, vr 37], (Wd S L F G h))) (by decide) [0, 0, 37, 0, 1] rfl ⟨⟨⟨trivial, ⟨⟨g1, g2⟩, c3⟩⟩, ⟨Nat.le_of_ble_eq_true rfl, rfl, hh _ _ _ rfl⟩⟩, ⟨Nat.le_of_ble_eq_true rfl, rfl, hh _ _ _ rfl⟩⟩ ?_
    refine wp.cl am_m87 rfl am_m14 7 [vr 37, vr 1] [] rfl (Nat.le_of_ble_eq_true rfl) ⟨(Nat.le_of_ble_eq_true rfl), (Nat.le_of_ble_eq_true rfl)⟩ rfl (Nat.le_of_ble_eq_true rfl) rfl (Nat.le_of_ble_eq_true rfl) (Nat.le_of_ble_eq_true rfl) ⟨_, _, rfl, Nat.le_of_ble_eq_true rfl, rfl⟩ ?_
    refine wp.mono H ?_
    rintro v w1 ⟨F4, h5, rfl, rfl, r6, H⟩
    show wp 11 87 (30, [some (vr 0), some (vi x1), some (vi x2)], [], (Wd S L F4 G h5)) _
    refine pt87 (s' := (34, [some (vr 0), some (vi x1), some (vi x2)], [vr 1], (Wd S L F4 G h5))) (by decide) [0, 1] rfl ⟨trivial, ⟨Nat.le_of_ble_eq_true rfl, rfl, r6 _ _ _ rfl⟩⟩ ?_
    refine wp.cl am_m87 rfl am_m46 10 [vr 1] [] rfl (Nat.le_of_ble_eq_true rfl) ⟨(Nat.le_of_ble_eq_true rfl), (Nat.le_of_ble_eq_true rfl)⟩ rfl (Nat.le_of_ble_eq_true rfl) rfl (Nat.le_of_ble_eq_true rfl) (Nat.le_of_ble_eq_true rfl) ⟨_, _, rfl, Nat.le_of_ble_eq_true rfl, rfl⟩ ?_
    refine wp.mono H ?_
    rintro v w1 ⟨F7, rfl, rfl, H⟩
    show wp 11 87 (37, [some (vr 0), some (vi x1), some (vi x2)], [], (Wd S L F7 G h5)) _
    refine pt87 (s' := (14, [some (vr 0), some (vi x1), some (vi (x2 + 1))], [], (Wd S L F7 G h5))) (by decide) [0, 0] rfl trivial ?_
    exact wp.weak (a := [some (vr 0), some (vi x1), some (vi (x2 + 1))]) ⟨rfl, rfl, rfl, trivial⟩ H
set_option maxRecDepth 100000 in
set_option maxHeartbeats 4000000 in
theorem T88_0 {S L : Nat} {F G : Nat → Nat → Int} {h : Nat → Nat → Option Nat} (hh : RfH h)   {Q : Option V2 → W2 → Prop}
    (H : (R32 (F 37 1) ∧
 (if (F 37 1) = 0 then
  Q (some (vi (-4))) (Wd S L F G h)
 else
  C16_0  (Wd S L F G h) (fun v w1 => ∃ (F3 : Nat → Nat → Int), v = none ∧ w1 = (Wd S L F3 G h) ∧
   Q (some (vi (F3 37 1))) (Wd S L F3 G h))))) : C88_0  (Wd S L F G h) Q := by
  obtain ⟨g1, H⟩ := H
  refine pt88 (s' := (7, [some (vr 0)], [vi (F 37 1)], (Wd S L F G h))) (by decide) [0, 37, 0] rfl ⟨⟨trivial, ⟨Nat.le_of_ble_eq_true rfl, rfl, hh _ _ _ rfl⟩⟩, ⟨Nat.le_of_ble_eq_true rfl, rfl⟩⟩ ?_
  by_cases c2 : (F 37 1) = 0
  · rw [if_pos c2] at H
    refine pt88 (s' := (12, [some (vr 0)], [vi (-4)], (Wd S L F G h))) (by decide) [0, 0] rfl ⟨trivial, ⟨g1, c2⟩⟩ ?_
    exact wp.fin (v := some (vi (-4))) (by decide) am_m88 rfl ⟨_, rfl, Or.inl rfl, rfl⟩ H
  · rw [if_neg c2] at H
    refine pt88 (s' := (21, [some (vr 0)], [vr 1, vr 37], (Wd S L F G h))) (by decide) [1, 0, 37, 0, 1] rfl ⟨⟨⟨trivial, ⟨g1, c2⟩⟩, ⟨Nat.le_of_ble_eq_true rfl, rfl, hh _ _ _ rfl⟩⟩, ⟨Nat.le_of_ble_eq_true rfl, rfl, hh _ _ _ rfl⟩⟩ ?_
    refine wp.cl am_m88 rfl am_m16 7 [vr 37, vr 1] [] rfl (Nat.le_of_ble_eq_true rfl) ⟨(Nat.le_of_ble_eq_true rfl), (Nat.le_of_ble_eq_true rfl)⟩ rfl (Nat.le_of_ble_eq_true rfl) rfl (Nat.le_of_ble_eq_true rfl) (Nat.le_of_ble_eq_true rfl) ⟨_, _, rfl, Nat.le_of_ble_eq_true rfl, rfl⟩ ?_
    refine wp.mono H ?_
    rintro v w1 ⟨F3, rfl, rfl, H⟩
    show wp 8 88 (24, [some (vr 0)], [], (Wd S L F3 G h)) _
    refine pt88 (s' := (31, [some (vr 0)], [vi (F3 37 1)], (Wd S L F3 G h))) (by decide) [0, 37, 0] rfl ⟨⟨trivial, ⟨Nat.le_of_ble_eq_true rfl, rfl, hh _ _ _ rfl⟩⟩, ⟨Nat.le_of_ble_eq_true rfl, rfl⟩⟩ ?_
    exact wp.fin (v := some (vi (F3 37 1))) (by decide) am_m88 rfl ⟨_, rfl, Or.inl rfl, rfl⟩ H
set_option maxRecDepth 100000 in
set_option maxHeartbeats 4000000 in
theorem T89_0 {S L : Nat} {F G : Nat → Nat → Int} {h : Nat → Nat → Option Nat} (hh : RfH h) {a1 : Int}  {Q : Option V2 → W2 → Prop}
    (H : (R32 a1 ∧
 (if 0 ≤ a1 then
  Q (some (vi (F 1 14))) (Wd S L (am_up F 1 14 a1) G h)
 else
  Q (some (vi (-1))) (Wd S L F G h)))) : C89_0 a1 (Wd S L F G h) Q := by
  obtain ⟨g1, H⟩ := H
  refine pt89 (s' := (1, [some (vr 0), some (vi a1), none], [vi a1], (Wd S L F G h))) (by decide) [0] rfl trivial ?_
  by_cases c2 : 0 ≤ a1
  · rw [if_pos c2] at H
    refine pt89 (s' := (23, [some (vr 0), some (vi a1), some (vi (F 1 14))], [vi (F 1 14)], (Wd S L (am_up F 1 14 a1) G h))) (by decide) [1, 0, 1, 0, 0, 0, 1, 0, 0, 0] rfl ⟨⟨⟨⟨⟨trivial, ⟨g1, c2⟩⟩, ⟨Nat.le_of_ble_eq_true rfl, rfl, hh _ _ _ rfl⟩⟩, ⟨Nat.le_of_ble_eq_true rfl, rfl⟩⟩, ⟨Nat.le_of_ble_eq_true rfl, rfl, hh _ _ _ rfl⟩⟩, ⟨Nat.le_of_ble_eq_true rfl, rfl, fun h => by cases h⟩⟩ ?_
    exact wp.fin (v := some (vi (F 1 14))) (by decide) am_m89 rfl ⟨_, rfl, Or.inl rfl, rfl⟩ H
  · rw [if_neg c2] at H
    refine pt89 (s' := (5, [some (vr 0), some (vi a1), none], [vi (-1)], (Wd S L F G h))) (by decide) [0, 0] rfl ⟨trivial, ⟨g1, c2⟩⟩ ?_
    exact wp.fin (v := some (vi (-1))) (by decide) am_m89 rfl ⟨_, rfl, Or.inl rfl, rfl⟩ H
set_option maxRecDepth 100000 in
set_option maxHeartbeats 4000000 in
theorem T90_0 {S L : Nat} {F G : Nat → Nat → Int} {h : Nat → Nat → Option Nat} (hh : RfH h)   {Q : Option V2 → W2 → Prop}
    (H : C24_0 147 1 (Wd S L F G h) (fun v w1 => ∃ (F1 : Nat → Nat → Int), v = none ∧ w1 = (Wd S L F1 G h) ∧
  C17b_0  (Wd S L F1 G h) (fun v w1 => ∃ (F2 : Nat → Nat → Int), v = none ∧ w1 = (Wd S L F2 G h) ∧
   Q (some (vi 1)) (Wd S L (am_up F2 0 5 1) G h)))) : C90_0  (Wd S L F G h) Q := by
  refine pt90 (s' := (8, [some (vr 0)], [vr 1, vr 147], (Wd S L F G h))) (by decide) [0, 147, 0, 1] rfl ⟨⟨trivial, ⟨Nat.le_of_ble_eq_true rfl, rfl, hh _ _ _ rfl⟩⟩, ⟨Nat.le_of_ble_eq_true rfl, rfl, hh _ _ _ rfl⟩⟩ ?_
  refine wp.cl am_m90 rfl am_m24 6 [vr 147, vr 1] [] rfl (Nat.le_of_ble_eq_true rfl) ⟨(Nat.le_of_ble_eq_true rfl), (Nat.le_of_ble_eq_true rfl)⟩ rfl (Nat.le_of_ble_eq_true rfl) rfl (Nat.le_of_ble_eq_true rfl) (Nat.le_of_ble_eq_true rfl) ⟨_, _, rfl, Nat.le_of_ble_eq_true rfl, rfl⟩ ?_
  refine wp.mono H ?_
  rintro v w1 ⟨F1, rfl, rfl, H⟩
  show wp 8 90 (11, [some (vr 0)], [], (Wd S L F1 G h)) _
  refine pt90 (s' := (19, [some (vr 0)], [vr 37, vr 165], (Wd S L F1 G h))) (by decide) [0, 165, 0, 37] rfl ⟨⟨trivial, ⟨Nat.le_of_ble_eq_true rfl, rfl, hh _ _ _ rfl⟩⟩, ⟨Nat.le_of_ble_eq_true rfl, rfl, hh _ _ _ rfl⟩⟩ ?_
  refine wp.cl am_m90 rfl am_m17 7 [vr 165, vr 37] [] rfl (Nat.le_of_ble_eq_true rfl) ⟨(Nat.le_of_ble_eq_true rfl), (Nat.le_of_ble_eq_true rfl)⟩ rfl (Nat.le_of_ble_eq_true rfl) rfl (Nat.le_of_ble_eq_true rfl) (Nat.le_of_ble_eq_true rfl) ⟨_, _, rfl, Nat.le_of_ble_eq_true rfl, rfl⟩ ?_
  refine wp.mono H ?_
  rintro v w1 ⟨F2, rfl, rfl, H⟩
  show wp 8 90 (22, [some (vr 0)], [], (Wd S L F2 G h)) _
  refine pt90 (s' := (28, [some (vr 0)], [vi 1], (Wd S L (am_up F2 0 5 1) G h))) (by decide) [0, 0, 0, 0] rfl ⟨trivial, ⟨Nat.le_of_ble_eq_true rfl, rfl, fun _ => Or.inr rfl⟩⟩ ?_
  exact wp.fin (v := some (vi 1)) (by decide) am_m90 rfl ⟨_, rfl, Or.inl rfl, rfl⟩ H
set_option maxRecDepth 100000 in
set_option maxHeartbeats 4000000 in
theorem T91_0 {S L : Nat} {F G : Nat → Nat → Int} {h : Nat → Nat → Option Nat} (hh : RfH h)   {Q : Option V2 → W2 → Prop}
    (H : (R32 (F 0 5) ∧
 (if (F 0 5) = 0 then
  Q (some (vi (-4))) (Wd S L F G h)
 else
  C24_0 1 147 (Wd S L F G h) (fun v w1 => ∃ (F3 : Nat → Nat → Int), v = none ∧ w1 = (Wd S L F3 G h) ∧
   C17_0  (Wd S L F3 G h) (fun v w1 => ∃ (F4 : Nat → Nat → Int), v = none ∧ w1 = (Wd S L F4 G h) ∧
    Q (some (vi 1)) (Wd S L F4 G h)))))) : C91_0  (Wd S L F G h) Q := by
  obtain ⟨g1, H⟩ := H
  refine pt91 (s' := (4, [some (vr 0)], [vi (F 0 5)], (Wd S L F G h))) (by decide) [0, 0] rfl ⟨trivial, ⟨Nat.le_of_ble_eq_true rfl, rfl⟩⟩ ?_
  by_cases c2 : (F 0 5) = 0
  · rw [if_pos c2] at H
    refine pt91 (s' := (9, [some (vr 0)], [vi (-4)], (Wd S L F G h))) (by decide) [0, 0] rfl ⟨trivial, ⟨g1, c2⟩⟩ ?_
    exact wp.fin (v := some (vi (-4))) (by decide) am_m91 rfl ⟨_, rfl, Or.inl rfl, rfl⟩ H
  · rw [if_neg c2] at H
    refine pt91 (s' := (18, [some (vr 0)], [vr 147, vr 1], (Wd S L F G h))) (by decide) [1, 0, 1, 0, 147] rfl ⟨⟨⟨trivial, ⟨g1, c2⟩⟩, ⟨Nat.le_of_ble_eq_true rfl, rfl, hh _ _ _ rfl⟩⟩, ⟨Nat.le_of_ble_eq_true rfl, rfl, hh _ _ _ rfl⟩⟩ ?_
    refine wp.cl am_m91 rfl am_m24 6 [vr 1, vr 147] [] rfl (Nat.le_of_ble_eq_true rfl) ⟨(Nat.le_of_ble_eq_true rfl), (Nat.le_of_ble_eq_true rfl)⟩ rfl (Nat.le_of_ble_eq_true rfl) rfl (Nat.le_of_ble_eq_true rfl) (Nat.le_of_ble_eq_true rfl) ⟨_, _, rfl, Nat.le_of_ble_eq_true rfl, rfl⟩ ?_
    refine wp.mono H ?_
    rintro v w1 ⟨F3, rfl, rfl, H⟩
    show wp 8 91 (21, [some (vr 0)], [], (Wd S L F3 G h)) _
    refine pt91 (s' := (29, [some (vr 0)], [vr 165, vr 37], (Wd S L F3 G h))) (by decide) [0, 37, 0, 165] rfl ⟨⟨trivial, ⟨Nat.le_of_ble_eq_true rfl, rfl, hh _ _ _ rfl⟩⟩, ⟨Nat.le_of_ble_eq_true rfl, rfl, hh _ _ _ rfl⟩⟩ ?_
    refine wp.cl am_m91 rfl am_m17 7 [vr 37, vr 165] [] rfl (Nat.le_of_ble_eq_true rfl) ⟨(Nat.le_of_ble_eq_true rfl), (Nat.le_of_ble_eq_true rfl)⟩ rfl (Nat.le_of_ble_eq_true rfl) rfl (Nat.le_of_ble_eq_true rfl) (Nat.le_of_ble_eq_true rfl) ⟨_, _, rfl, Nat.le_of_ble_eq_true rfl, rfl⟩ ?_
    refine wp.mono H ?_
    rintro v w1 ⟨F4, rfl, rfl, H⟩
    show wp 8 91 (32, [some (vr 0)], [], (Wd S L F4 G h)) _
    refine pt91 (s' := (33, [some (vr 0)], [vi 1], (Wd S L F4 G h))) (by decide) [0] rfl trivial ?_
    exact wp.fin (v := some (vi 1)) (by decide) am_m91 rfl ⟨_, rfl, Or.inl rfl, rfl⟩ H
set_option maxRecDepth 100000 in
set_option maxHeartbeats 4000000 in
theorem T92_0 {S L : Nat} {F G : Nat → Nat → Int} {h : Nat → Nat → Option Nat} (hh : RfH h) {a1 : Int} {a2 : Int} {a3 : Int} {a4 : Int}  {Q : Option V2 → W2 → Prop}
    (H : (R32 a4 ∧
 (if a4 < 1 then
  Q (some (vi (-1))) (Wd S L F G h)
 else
  (if 6 < a4 then
   Q (some (vi (-1))) (Wd S L F G h)
  else
   C100_0 a1 a2 (Wd S L F G h) (fun v w1 => ∃ (v4 : Int), v = some (vi v4) ∧ w1 = (Wd S L F G h) ∧
    (R32 v4 ∧
    (if 0 ≤ v4 then
     ((0 ≤ a1 ∧ a1 < 4) ∧
     C20_0 (289 + 2 * a1.toNat) a3 a4 (Wd S L F G h) (fun v w1 => ∃ (v8 : Int), v = some (vi v8) ∧ w1 = (Wd S L F G h) ∧
      (R32 v8 ∧
      (if v8 = 0 then
       Q (some (vi (-13))) (Wd S L F G h)
      else
       C22_0 (289 + 2 * a1.toNat) a3 a4 (Wd S L F G h) (fun v w1 => ∃ (v11 : Int), v = some (vi v11) ∧ w1 = (Wd S L F G h) ∧
        (R32 v11 ∧
        (if 0 ≤ v11 then
         C42_0 v11 (Wd S L F G h) (fun v w1 => ∃ (v14 : Int), v = some (vi v14) ∧ w1 = (Wd S L F G h) ∧
          Q (some (vi v14)) (Wd S L F G h))
        else
         Q (some (vi (-2))) (Wd S L F G h))))))))
    else
     Q (some (vi v4)) (Wd S L F G h)))))))) : C92_0 a1 a2 a3 a4 (Wd S L F G h) Q := by
  refine pt92 (s' := (5, [some (vr 0), some (vi a1), some (vi a2), some (vi a3), some (vi a4), none, none], [vi 6, vi 1, vi a4], (Wd S L F G h))) (by decide) [0, 0, 0] rfl trivial ?_
  refine wp.cl am_m92 rfl am_m101 6 [vi a4, vi 1, vi 6] [] rfl (Nat.le_of_ble_eq_true rfl) ⟨(Nat.le_of_ble_eq_true rfl), (Nat.le_of_ble_eq_true rfl)⟩ rfl (Nat.le_of_ble_eq_true rfl) rfl (Nat.le_of_ble_eq_true rfl) (Nat.le_of_ble_eq_true rfl) trivial ?_
  obtain ⟨g1, H⟩ := H
  refine pt101 (s' := (2, [some (vi a4), some (vi 1), some (vi 6)], [vi 1, vi a4], (Wd S L F G h))) (by decide) [0, 0] rfl trivial ?_
  by_cases c2 : a4 < 1
  · rw [if_pos c2] at H
    refine pt101 (s' := (15, [some (vi a4), some (vi 1), some (vi 6)], [vi 0], (Wd S L F G h))) (by decide) [1, 0] rfl ⟨trivial, ⟨⟨g1, (by decide : R32 1)⟩, c2⟩⟩ ?_
    refine wp.fin (v := some (vi 0)) (by decide) am_m101 rfl ⟨_, rfl, Or.inr ⟨rfl, Or.inl rfl⟩, rfl⟩ ?_
    show wp 9 92 (8, [some (vr 0), some (vi a1), some (vi a2), some (vi a3), some (vi a4), none, none], [vi 0], (Wd S L F G h)) _
    refine pt92 (s' := (12, [some (vr 0), some (vi a1), some (vi a2), some (vi a3), some (vi a4), none, none], [vi (-1)], (Wd S L F G h))) (by decide) [0, 0] rfl ⟨trivial, ⟨(by decide : R32 0), (by decide : (0 : Int) = (0 : Int))⟩⟩ ?_
    exact wp.fin (v := some (vi (-1))) (by decide) am_m92 rfl ⟨_, rfl, Or.inl rfl, rfl⟩ H
  · rw [if_neg c2] at H
    refine pt101 (s' := (7, [some (vi a4), some (vi 1), some (vi 6)], [vi 6, vi a4], (Wd S L F G h))) (by decide) [0, 0, 0] rfl ⟨trivial, ⟨⟨g1, (by decide : R32 1)⟩, c2⟩⟩ ?_
    by_cases c3 : 6 < a4
    · rw [if_pos c3] at H
      refine pt101 (s' := (15, [some (vi a4), some (vi 1), some (vi 6)], [vi 0], (Wd S L F G h))) (by decide) [1, 0] rfl ⟨trivial, ⟨⟨g1, (by decide : R32 6)⟩, c3⟩⟩ ?_
      refine wp.fin (v := some (vi 0)) (by decide) am_m101 rfl ⟨_, rfl, Or.inr ⟨rfl, Or.inl rfl⟩, rfl⟩ ?_
      show wp 9 92 (8, [some (vr 0), some (vi a1), some (vi a2), some (vi a3), some (vi a4), none, none], [vi 0], (Wd S L F G h)) _
      refine pt92 (s' := (12, [some (vr 0), some (vi a1), some (vi a2), some (vi a3), some (vi a4), none, none], [vi (-1)], (Wd S L F G h))) (by decide) [0, 0] rfl ⟨trivial, ⟨(by decide : R32 0), (by decide : (0 : Int) = (0 : Int))⟩⟩ ?_
      exact wp.fin (v := some (vi (-1))) (by decide) am_m92 rfl ⟨_, rfl, Or.inl rfl, rfl⟩ H
    · rw [if_neg c3] at H
      refine pt101 (s' := (15, [some (vi a4), some (vi 1), some (vi 6)], [vi 1], (Wd S L F G h))) (by decide) [0, 0, 0] rfl ⟨trivial, ⟨⟨g1, (by decide : R32 6)⟩, c3⟩⟩ ?_
      refine wp.fin (v := some (vi 1)) (by decide) am_m101 rfl ⟨_, rfl, Or.inr ⟨rfl, Or.inr rfl⟩, rfl⟩ ?_
      show wp 9 92 (8, [some (vr 0), some (vi a1), some (vi a2), some (vi a3), some (vi a4), none, none], [vi 1], (Wd S L F G h)) _
      refine pt92 (s' := (16, [some (vr 0), some (vi a1), some (vi a2), some (vi a3), some (vi a4), none, none], [vi a2, vi a1, vr 0], (Wd S L F G h))) (by decide) [1, 0, 0, 0] rfl ⟨trivial, ⟨(by decide : R32 1), (by decide : ¬ (1 : Int) = (0 : Int))⟩⟩ ?_
      refine wp.cl am_m92 rfl am_m100 8 [vr 0, vi a1, vi a2] [] rfl (Nat.le_of_ble_eq_true rfl) ⟨(Nat.le_of_ble_eq_true rfl), (Nat.le_of_ble_eq_true rfl)⟩ rfl (Nat.le_of_ble_eq_true rfl) rfl (Nat.le_of_ble_eq_true rfl) (Nat.le_of_ble_eq_true rfl) ⟨_, _, rfl, Nat.le_of_ble_eq_true rfl, rfl⟩ ?_
      refine wp.mono H ?_
      rintro v w1 ⟨v4, rfl, rfl, H⟩
      show wp 9 92 (19, [some (vr 0), some (vi a1), some (vi a2), some (vi a3), some (vi a4), none, none], [vi v4], (Wd S L F G h)) _
      obtain ⟨g5, H⟩ := H
      refine pt92 (s' := (23, [some (vr 0), some (vi a1), some (vi a2), some (vi a3), some (vi a4), some (vi v4), none], [vi v4], (Wd S L F G h))) (by decide) [0, 0] rfl trivial ?_
      by_cases c6 : 0 ≤ v4
      · rw [if_pos c6] at H
        obtain ⟨g7, H⟩ := H
        refine pt92 (s' := (38, [some (vr 0), some (vi a1), some (vi a2), some (vi a3), some (vi a4), some (vi v4), none], [vi a4, vi a3, vr (289 + 2 * a1.toNat)], (Wd S L F G h))) (by decide) [1, 0, 288, 0, (289 + 2 * a1.toNat), 0, 0] rfl ⟨⟨⟨trivial, ⟨g5, c6⟩⟩, ⟨Nat.le_of_ble_eq_true rfl, rfl, hh _ _ _ rfl⟩⟩, ⟨Nat.le_of_ble_eq_true rfl, Or.inr (Or.inr rfl), g7, (hh_rows hh g7)⟩⟩ ?_
        refine wp.cl am_m92 rfl am_m20 6 [vr (289 + 2 * a1.toNat), vi a3, vi a4] [] rfl (Nat.le_of_ble_eq_true rfl) ⟨(Nat.le_of_ble_eq_true rfl), (Nat.le_of_ble_eq_true rfl)⟩ rfl (Nat.le_of_ble_eq_true rfl) rfl (Nat.le_of_ble_eq_true rfl) (Nat.le_of_ble_eq_true rfl) ⟨_, _, rfl, (YSP.o (YSP.of g7)).1, (YSP.o (YSP.of g7)).2⟩ ?_
        refine wp.mono H ?_
        rintro v w1 ⟨v8, rfl, rfl, H⟩
        show wp 9 92 (41, [some (vr 0), some (vi a1), some (vi a2), some (vi a3), some (vi a4), some (vi v4), none], [vi v8], (Wd S L F G h)) _
        obtain ⟨g9, H⟩ := H
        by_cases c10 : v8 = 0
        · rw [if_pos c10] at H
          refine pt92 (s' := (46, [some (vr 0), some (vi a1), some (vi a2), some (vi a3), some (vi a4), some (vi v4), none], [vi (-13)], (Wd S L F G h))) (by decide) [0, 0] rfl ⟨trivial, ⟨g9, c10⟩⟩ ?_
          exact wp.fin (v := some (vi (-13))) (by decide) am_m92 rfl ⟨_, rfl, Or.inl rfl, rfl⟩ H
        · rw [if_neg c10] at H
          refine pt92 (s' := (56, [some (vr 0), some (vi a1), some (vi a2), some (vi a3), some (vi a4), some (vi v4), none], [vi a4, vi a3, vr (289 + 2 * a1.toNat)], (Wd S L F G h))) (by decide) [1, 0, 288, 0, (289 + 2 * a1.toNat), 0, 0] rfl ⟨⟨⟨trivial, ⟨g9, c10⟩⟩, ⟨Nat.le_of_ble_eq_true rfl, rfl, hh _ _ _ rfl⟩⟩, ⟨Nat.le_of_ble_eq_true rfl, Or.inr (Or.inr rfl), g7, (hh_rows hh g7)⟩⟩ ?_
          refine wp.cl am_m92 rfl am_m22 7 [vr (289 + 2 * a1.toNat), vi a3, vi a4] [] rfl (Nat.le_of_ble_eq_true rfl) ⟨(Nat.le_of_ble_eq_true rfl), (Nat.le_of_ble_eq_true rfl)⟩ rfl (Nat.le_of_ble_eq_true rfl) rfl (Nat.le_of_ble_eq_true rfl) (Nat.le_of_ble_eq_true rfl) ⟨_, _, rfl, (YSP.o (YSP.of g7)).1, (YSP.o (YSP.of g7)).2⟩ ?_
          refine wp.mono H ?_
          rintro v w1 ⟨v11, rfl, rfl, H⟩
          show wp 9 92 (59, [some (vr 0), some (vi a1), some (vi a2), some (vi a3), some (vi a4), some (vi v4), none], [vi v11], (Wd S L F G h)) _
          obtain ⟨g12, H⟩ := H
          refine pt92 (s' := (63, [some (vr 0), some (vi a1), some (vi a2), some (vi a3), some (vi a4), some (vi v4), some (vi v11)], [vi v11], (Wd S L F G h))) (by decide) [0, 0] rfl trivial ?_
          by_cases c13 : 0 ≤ v11
          · rw [if_pos c13] at H
            refine pt92 (s' := (77, [some (vr 0), some (vi a1), some (vi a2), some (vi a3), some (vi a4), some (vi v4), some (vi v11)], [vi v11, vr 1], (Wd S L F G h))) (by decide) [1, 0, 1, 0] rfl ⟨⟨trivial, ⟨g12, c13⟩⟩, ⟨Nat.le_of_ble_eq_true rfl, rfl, hh _ _ _ rfl⟩⟩ ?_
            refine wp.cl am_m92 rfl am_m42 8 [vr 1, vi v11] [] rfl (Nat.le_of_ble_eq_true rfl) ⟨(Nat.le_of_ble_eq_true rfl), (Nat.le_of_ble_eq_true rfl)⟩ rfl (Nat.le_of_ble_eq_true rfl) rfl (Nat.le_of_ble_eq_true rfl) (Nat.le_of_ble_eq_true rfl) ⟨_, _, rfl, Nat.le_of_ble_eq_true rfl, rfl⟩ ?_
            refine wp.mono H ?_
            rintro v w1 ⟨v14, rfl, rfl, H⟩
            show wp 9 92 (80, [some (vr 0), some (vi a1), some (vi a2), some (vi a3), some (vi a4), some (vi v4), some (vi v11)], [vi v14], (Wd S L F G h)) _
            exact wp.fin (v := some (vi v14)) (by decide) am_m92 rfl ⟨_, rfl, Or.inl rfl, rfl⟩ H
          · rw [if_neg c13] at H
            refine pt92 (s' := (80, [some (vr 0), some (vi a1), some (vi a2), some (vi a3), some (vi a4), some (vi v4), some (vi v11)], [vi (-2)], (Wd S L F G h))) (by decide) [0, 0, 0] rfl ⟨trivial, ⟨g12, c13⟩⟩ ?_
            exact wp.fin (v := some (vi (-2))) (by decide) am_m92 rfl ⟨_, rfl, Or.inl rfl, rfl⟩ H
      · rw [if_neg c6] at H
        refine pt92 (s' := (28, [some (vr 0), some (vi a1), some (vi a2), some (vi a3), some (vi a4), some (vi v4), none], [vi v4], (Wd S L F G h))) (by decide) [0, 0] rfl ⟨trivial, ⟨g5, c6⟩⟩ ?_
        exact wp.fin (v := some (vi v4)) (by decide) am_m92 rfl ⟨_, rfl, Or.inl rfl, rfl⟩ H
set_option maxRecDepth 100000 in
set_option maxHeartbeats 4000000 in
theorem T93_0 {S L : Nat} {F G : Nat → Nat → Int} {h : Nat → Nat → Option Nat} (hh : RfH h) {a1 : Int} {a2 : Int} {a3 : Int}  {Q : Option V2 → W2 → Prop}
    (H : C100_0 a1 a2 (Wd S L F G h) (fun v w1 => ∃ (v1 : Int), v = some (vi v1) ∧ w1 = (Wd S L F G h) ∧
  (R32 v1 ∧
  (if 0 ≤ v1 then
   ((0 ≤ a1 ∧ a1 < 4) ∧
   C20_0 (289 + 2 * a1.toNat) a3 (F 1 6) (Wd S L F G h) (fun v w1 => ∃ (v5 : Int), v = some (vi v5) ∧ w1 = (Wd S L F G h) ∧
    (R32 v5 ∧
    (if v5 = 0 then
     Q (some (vi (-13))) (Wd S L F G h)
    else
     C1_0  (Wd S L F G h) (fun v w1 => ∃ (F8 : Nat → Nat → Int), v = none ∧ w1 = (Wd S L F8 G h) ∧
      C93_53 a1 a3 0 (Wd S L F8 G h) Q)))))
  else
   Q (some (vi v1)) (Wd S L F G h))))) : C93_0 a1 a2 a3 (Wd S L F G h) Q := by
  refine pt93 (s' := (3, [some (vr 0), some (vi a1), some (vi a2), some (vi a3), none, none], [vi a2, vi a1, vr 0], (Wd S L F G h))) (by decide) [0, 0, 0] rfl trivial ?_
  refine wp.cl am_m93 rfl am_m100 8 [vr 0, vi a1, vi a2] [] rfl (Nat.le_of_ble_eq_true rfl) ⟨(Nat.le_of_ble_eq_true rfl), (Nat.le_of_ble_eq_true rfl)⟩ rfl (Nat.le_of_ble_eq_true rfl) rfl (Nat.le_of_ble_eq_true rfl) (Nat.le_of_ble_eq_true rfl) ⟨_, _, rfl, Nat.le_of_ble_eq_true rfl, rfl⟩ ?_
  refine wp.mono H ?_
  rintro v w1 ⟨v1, rfl, rfl, H⟩
  show wp 11 93 (6, [some (vr 0), some (vi a1), some (vi a2), some (vi a3), none, none], [vi v1], (Wd S L F G h)) _
  obtain ⟨g2, H⟩ := H
  refine pt93 (s' := (10, [some (vr 0), some (vi a1), some (vi a2), some (vi a3), some (vi v1), none], [vi v1], (Wd S L F G h))) (by decide) [0, 0] rfl trivial ?_
  by_cases c3 : 0 ≤ v1
  · rw [if_pos c3] at H
    obtain ⟨g4, H⟩ := H
    refine pt93 (s' := (30, [some (vr 0), some (vi a1), some (vi a2), some (vi a3), some (vi v1), none], [vi (F 1 6), vi a3, vr (289 + 2 * a1.toNat)], (Wd S L F G h))) (by decide) [1, 0, 288, 0, (289 + 2 * a1.toNat), 0, 0, 1, 0] rfl ⟨⟨⟨⟨⟨trivial, ⟨g2, c3⟩⟩, ⟨Nat.le_of_ble_eq_true rfl, rfl, hh _ _ _ rfl⟩⟩, ⟨Nat.le_of_ble_eq_true rfl, Or.inr (Or.inr rfl), g4, (hh_rows hh g4)⟩⟩, ⟨Nat.le_of_ble_eq_true rfl, rfl, hh _ _ _ rfl⟩⟩, ⟨Nat.le_of_ble_eq_true rfl, rfl⟩⟩ ?_
    refine wp.cl am_m93 rfl am_m20 6 [vr (289 + 2 * a1.toNat), vi a3, vi (F 1 6)] [] rfl (Nat.le_of_ble_eq_true rfl) ⟨(Nat.le_of_ble_eq_true rfl), (Nat.le_of_ble_eq_true rfl)⟩ rfl (Nat.le_of_ble_eq_true rfl) rfl (Nat.le_of_ble_eq_true rfl) (Nat.le_of_ble_eq_true rfl) ⟨_, _, rfl, (YSP.o (YSP.of g4)).1, (YSP.o (YSP.of g4)).2⟩ ?_
    refine wp.mono H ?_
    rintro v w1 ⟨v5, rfl, rfl, H⟩
    show wp 11 93 (33, [some (vr 0), some (vi a1), some (vi a2), some (vi a3), some (vi v1), none], [vi v5], (Wd S L F G h)) _
    obtain ⟨g6, H⟩ := H
    by_cases c7 : v5 = 0
    · rw [if_pos c7] at H
      refine pt93 (s' := (38, [some (vr 0), some (vi a1), some (vi a2), some (vi a3), some (vi v1), none], [vi (-13)], (Wd S L F G h))) (by decide) [0, 0] rfl ⟨trivial, ⟨g6, c7⟩⟩ ?_
      exact wp.fin (v := some (vi (-13))) (by decide) am_m93 rfl ⟨_, rfl, Or.inl rfl, rfl⟩ H
    · rw [if_neg c7] at H
      refine pt93 (s' := (47, [some (vr 0), some (vi a1), some (vi a2), some (vi a3), some (vi v1), none], [vr 1, vr 275], (Wd S L F G h))) (by decide) [1, 0, 275, 0, 1] rfl ⟨⟨⟨trivial, ⟨g6, c7⟩⟩, ⟨Nat.le_of_ble_eq_true rfl, rfl, hh _ _ _ rfl⟩⟩, ⟨Nat.le_of_ble_eq_true rfl, rfl, hh _ _ _ rfl⟩⟩ ?_
      refine wp.cl am_m93 rfl am_m1 10 [vr 275, vr 1] [] rfl (Nat.le_of_ble_eq_true rfl) ⟨(Nat.le_of_ble_eq_true rfl), (Nat.le_of_ble_eq_true rfl)⟩ rfl (Nat.le_of_ble_eq_true rfl) rfl (Nat.le_of_ble_eq_true rfl) (Nat.le_of_ble_eq_true rfl) ⟨_, _, rfl, Nat.le_of_ble_eq_true rfl, rfl⟩ ?_
      refine wp.mono H ?_
      rintro v w1 ⟨F8, rfl, rfl, H⟩
      show wp 11 93 (50, [some (vr 0), some (vi a1), some (vi a2), some (vi a3), some (vi v1), none], [], (Wd S L F8 G h)) _
      refine pt93 (s' := (53, [some (vr 0), some (vi a1), some (vi a2), some (vi a3), some (vi v1), some (vi 0)], [], (Wd S L F8 G h))) (by decide) [0, 0] rfl trivial ?_
      exact wp.weak (a := [some (vr 0), some (vi a1), none, some (vi a3), none, some (vi 0)]) ⟨rfl, rfl, rfl, rfl, trivial⟩ H
  · rw [if_neg c3] at H
    refine pt93 (s' := (15, [some (vr 0), some (vi a1), some (vi a2), some (vi a3), some (vi v1), none], [vi v1], (Wd S L F G h))) (by decide) [0, 0] rfl ⟨trivial, ⟨g2, c3⟩⟩ ?_
    exact wp.fin (v := some (vi v1)) (by decide) am_m93 rfl ⟨_, rfl, Or.inl rfl, rfl⟩ H
set_option maxRecDepth 100000 in
set_option maxHeartbeats 4000000 in
theorem T93_53 {S L : Nat} {F G : Nat → Nat → Int} {h : Nat → Nat → Option Nat} (hh : RfH h) {x1 : Int} {x3 : Int} {x5 : Int}  {Q : Option V2 → W2 → Prop}
    (H : (R32 x5 ∧
 R32 (F 1 6) ∧
 (if (F 1 6) ≤ x5 then
  Q (some (vi (F 1 6))) (Wd S L F G h)
 else
  ((0 ≤ x1 ∧ x1 < 4) ∧
  (0 ≤ x5 ∧ x5 < 12) ∧
  R32 (F 276 x5.toNat) ∧
  C21_0 (289 + 2 * x1.toNat) (x3 + x5) (F 276 x5.toNat) (Wd S L F G h) (fun v w1 => ∃ (G7 : Nat → Nat → Int), v = none ∧ w1 = (Wd S L F G7 h) ∧
   C93_53 x1 x3 (x5 + 1) (Wd S L F G7 h) Q))))) : C93_53 x1 x3 x5 (Wd S L F G h) Q := by
  obtain ⟨g1, H⟩ := H
  obtain ⟨g2, H⟩ := H
  refine pt93 (s' := (62, [some (vr 0), some (vi x1), none, some (vi x3), none, some (vi x5)], [vi (F 1 6), vi x5], (Wd S L F G h))) (by decide) [0, 0, 1, 0] rfl ⟨⟨trivial, ⟨Nat.le_of_ble_eq_true rfl, rfl, hh _ _ _ rfl⟩⟩, ⟨Nat.le_of_ble_eq_true rfl, rfl⟩⟩ ?_
  by_cases c3 : (F 1 6) ≤ x5
  · rw [if_pos c3] at H
    refine pt93 (s' := (102, [some (vr 0), some (vi x1), none, some (vi x3), none, some (vi x5)], [vi (F 1 6)], (Wd S L F G h))) (by decide) [1, 0, 1, 0] rfl ⟨⟨⟨trivial, ⟨⟨g1, g2⟩, c3⟩⟩, ⟨Nat.le_of_ble_eq_true rfl, rfl, hh _ _ _ rfl⟩⟩, ⟨Nat.le_of_ble_eq_true rfl, rfl⟩⟩ ?_
    exact wp.fin (v := some (vi (F 1 6))) (by decide) am_m93 rfl ⟨_, rfl, Or.inl rfl, rfl⟩ H
  · rw [if_neg c3] at H
    obtain ⟨g4, H⟩ := H
    obtain ⟨g5, H⟩ := H
    obtain ⟨g6, H⟩ := H
    refine pt93 (s' := (86, [some (vr 0), some (vi x1), none, some (vi x3), none, some (vi x5)], [vj (F 276 x5.toNat), vi (x3 + x5), vr (289 + 2 * x1.toNat)], (Wd S L F G h))) (by decide) [0, 0, 288, 0, (289 + 2 * x1.toNat), 0, 0, 0, 0, 275, 276, 0, 0, 0] rfl ⟨⟨⟨⟨⟨⟨⟨trivial, ⟨⟨g1, g2⟩, c3⟩⟩, ⟨Nat.le_of_ble_eq_true rfl, rfl, hh _ _ _ rfl⟩⟩, ⟨Nat.le_of_ble_eq_true rfl, Or.inr (Or.inr rfl), g4, (hh_rows hh g4)⟩⟩, ⟨Nat.le_of_ble_eq_true rfl, rfl, hh _ _ _ rfl⟩⟩, ⟨Nat.le_of_ble_eq_true rfl, rfl, hh _ _ _ rfl⟩⟩, (ix ⟨Nat.le_of_ble_eq_true rfl, rfl⟩ g5)⟩, g6⟩ ?_
    refine wp.cl am_m93 rfl am_m21 6 [vr (289 + 2 * x1.toNat), vi (x3 + x5), vj (F 276 x5.toNat)] [] rfl (Nat.le_of_ble_eq_true rfl) ⟨(Nat.le_of_ble_eq_true rfl), (Nat.le_of_ble_eq_true rfl)⟩ rfl (Nat.le_of_ble_eq_true rfl) rfl (Nat.le_of_ble_eq_true rfl) (Nat.le_of_ble_eq_true rfl) ⟨_, _, rfl, (YSP.o (YSP.of g4)).1, (YSP.o (YSP.of g4)).2⟩ ?_
    refine wp.mono H ?_
    rintro v w1 ⟨G7, rfl, rfl, H⟩
    show wp 11 93 (89, [some (vr 0), some (vi x1), none, some (vi x3), none, some (vi x5)], [], (Wd S L F G7 h)) _
    refine pt93 (s' := (53, [some (vr 0), some (vi x1), none, some (vi x3), none, some (vi (x5 + 1))], [], (Wd S L F G7 h))) (by decide) [0, 0] rfl trivial ?_
    exact wp.weak (a := [some (vr 0), some (vi x1), none, some (vi x3), none, some (vi (x5 + 1))]) ⟨rfl, rfl, rfl, rfl, trivial⟩ H
set_option maxRecDepth 100000 in
set_option maxHeartbeats 4000000 in
theorem T94_0 {S L : Nat} {F G : Nat → Nat → Int} {h : Nat → Nat → Option Nat} (hh : RfH h) {a1 : Int} {a2 : Int} {a3 : Int}  {Q : Option V2 → W2 → Prop}
    (H : (R32 a1 ∧
 (if a1 < 0 then
  Q (some (vi (-1))) (Wd S L F G h)
 else
  (if 3 < a1 then
   Q (some (vi (-1))) (Wd S L F G h)
  else
   (R32 a2 ∧
   (if a2 < 0 then
    Q (some (vi (-1))) (Wd S L F G h)
   else
    (if 3 < a2 then
     Q (some (vi (-1))) (Wd S L F G h)
    else
     (R32 a3 ∧
     (if a3 ≤ 24 then
      (if 0 ≤ a3 then
       ((0 ≤ a1 ∧ a1 < 4) ∧
       C19_0 (289 + 2 * a1.toNat) a2 a3 (Wd S L F G h) (fun v w1 => ∃ (F11 : Nat → Nat → Int) (G12 : Nat → Nat → Int), v = none ∧ w1 = (Wd S L F11 G12 h) ∧
        Q (some (vi a3)) (Wd S L F11 G12 h)))
      else
       Q (some (vi (-14))) (Wd S L F G h))
     else
      Q (some (vi (-1))) (Wd S L F G h)))))))))) : C94_0 a1 a2 a3 (Wd S L F G h) Q := by
  refine pt94 (s' := (1, [some (vr 0), some (vi a1), some (vi a2), some (vi a3)], [vi a1], (Wd S L F G h))) (by decide) [0] rfl trivial ?_
  refine wp.cl am_m94 rfl am_m104 7 [vi a1] [] rfl (Nat.le_of_ble_eq_true rfl) ⟨(Nat.le_of_ble_eq_true rfl), (Nat.le_of_ble_eq_true rfl)⟩ rfl (Nat.le_of_ble_eq_true rfl) rfl (Nat.le_of_ble_eq_true rfl) (Nat.le_of_ble_eq_true rfl) trivial ?_
  refine pt104 (s' := (3, [some (vi a1)], [vi 3, vi 0, vi a1], (Wd S L F G h))) (by decide) [0, 0, 0] rfl trivial ?_
  refine wp.cl am_m104 rfl am_m101 6 [vi a1, vi 0, vi 3] [] rfl (Nat.le_of_ble_eq_true rfl) ⟨(Nat.le_of_ble_eq_true rfl), (Nat.le_of_ble_eq_true rfl)⟩ rfl (Nat.le_of_ble_eq_true rfl) rfl (Nat.le_of_ble_eq_true rfl) (Nat.le_of_ble_eq_true rfl) trivial ?_
  obtain ⟨g1, H⟩ := H
  refine pt101 (s' := (2, [some (vi a1), some (vi 0), some (vi 3)], [vi 0, vi a1], (Wd S L F G h))) (by decide) [0, 0] rfl trivial ?_
  by_cases c2 : a1 < 0
  · rw [if_pos c2] at H
    refine pt101 (s' := (15, [some (vi a1), some (vi 0), some (vi 3)], [vi 0], (Wd S L F G h))) (by decide) [1, 0] rfl ⟨trivial, ⟨⟨g1, (by decide : R32 0)⟩, c2⟩⟩ ?_
    refine wp.fin (v := some (vi 0)) (by decide) am_m101 rfl ⟨_, rfl, Or.inr ⟨rfl, Or.inl rfl⟩, rfl⟩ ?_
    show wp 7 104 (6, [some (vi a1)], [vi 0], (Wd S L F G h)) _
    refine wp.fin (v := some (vi 0)) (by decide) am_m104 rfl ⟨_, rfl, Or.inr ⟨rfl, Or.inl rfl⟩, rfl⟩ ?_
    show wp 8 94 (4, [some (vr 0), some (vi a1), some (vi a2), some (vi a3)], [vi 0], (Wd S L F G h)) _
    refine pt94 (s' := (23, [some (vr 0), some (vi a1), some (vi a2), some (vi a3)], [vi (-1)], (Wd S L F G h))) (by decide) [1, 0] rfl ⟨trivial, ⟨(by decide : R32 0), (by decide : (0 : Int) = (0 : Int))⟩⟩ ?_
    exact wp.fin (v := some (vi (-1))) (by decide) am_m94 rfl ⟨_, rfl, Or.inl rfl, rfl⟩ H
  · rw [if_neg c2] at H
    refine pt101 (s' := (7, [some (vi a1), some (vi 0), some (vi 3)], [vi 3, vi a1], (Wd S L F G h))) (by decide) [0, 0, 0] rfl ⟨trivial, ⟨⟨g1, (by decide : R32 0)⟩, c2⟩⟩ ?_
    by_cases c3 : 3 < a1
    · rw [if_pos c3] at H
      refine pt101 (s' := (15, [some (vi a1), some (vi 0), some (vi 3)], [vi 0], (Wd S L F G h))) (by decide) [1, 0] rfl ⟨trivial, ⟨⟨g1, (by decide : R32 3)⟩, c3⟩⟩ ?_
      refine wp.fin (v := some (vi 0)) (by decide) am_m101 rfl ⟨_, rfl, Or.inr ⟨rfl, Or.inl rfl⟩, rfl⟩ ?_
      show wp 7 104 (6, [some (vi a1)], [vi 0], (Wd S L F G h)) _
      refine wp.fin (v := some (vi 0)) (by decide) am_m104 rfl ⟨_, rfl, Or.inr ⟨rfl, Or.inl rfl⟩, rfl⟩ ?_
      show wp 8 94 (4, [some (vr 0), some (vi a1), some (vi a2), some (vi a3)], [vi 0], (Wd S L F G h)) _
      refine pt94 (s' := (23, [some (vr 0), some (vi a1), some (vi a2), some (vi a3)], [vi (-1)], (Wd S L F G h))) (by decide) [1, 0] rfl ⟨trivial, ⟨(by decide : R32 0), (by decide : (0 : Int) = (0 : Int))⟩⟩ ?_
      exact wp.fin (v := some (vi (-1))) (by decide) am_m94 rfl ⟨_, rfl, Or.inl rfl, rfl⟩ H
    · rw [if_neg c3] at H
      refine pt101 (s' := (15, [some (vi a1), some (vi 0), some (vi 3)], [vi 1], (Wd S L F G h))) (by decide) [0, 0, 0] rfl ⟨trivial, ⟨⟨g1, (by decide : R32 3)⟩, c3⟩⟩ ?_
      refine wp.fin (v := some (vi 1)) (by decide) am_m101 rfl ⟨_, rfl, Or.inr ⟨rfl, Or.inr rfl⟩, rfl⟩ ?_
      show wp 7 104 (6, [some (vi a1)], [vi 1], (Wd S L F G h)) _
      refine wp.fin (v := some (vi 1)) (by decide) am_m104 rfl ⟨_, rfl, Or.inr ⟨rfl, Or.inr rfl⟩, rfl⟩ ?_
      show wp 8 94 (4, [some (vr 0), some (vi a1), some (vi a2), some (vi a3)], [vi 1], (Wd S L F G h)) _
      refine pt94 (s' := (10, [some (vr 0), some (vi a1), some (vi a2), some (vi a3)], [vi 3, vi 0, vi a2], (Wd S L F G h))) (by decide) [0, 0, 0, 0] rfl ⟨trivial, ⟨(by decide : R32 1), (by decide : ¬ (1 : Int) = (0 : Int))⟩⟩ ?_
      refine wp.cl am_m94 rfl am_m101 6 [vi a2, vi 0, vi 3] [] rfl (Nat.le_of_ble_eq_true rfl) ⟨(Nat.le_of_ble_eq_true rfl), (Nat.le_of_ble_eq_true rfl)⟩ rfl (Nat.le_of_ble_eq_true rfl) rfl (Nat.le_of_ble_eq_true rfl) (Nat.le_of_ble_eq_true rfl) trivial ?_
      obtain ⟨g4, H⟩ := H
      refine pt101 (s' := (2, [some (vi a2), some (vi 0), some (vi 3)], [vi 0, vi a2], (Wd S L F G h))) (by decide) [0, 0] rfl trivial ?_
      by_cases c5 : a2 < 0
      · rw [if_pos c5] at H
        refine pt101 (s' := (15, [some (vi a2), some (vi 0), some (vi 3)], [vi 0], (Wd S L F G h))) (by decide) [1, 0] rfl ⟨trivial, ⟨⟨g4, (by decide : R32 0)⟩, c5⟩⟩ ?_
        refine wp.fin (v := some (vi 0)) (by decide) am_m101 rfl ⟨_, rfl, Or.inr ⟨rfl, Or.inl rfl⟩, rfl⟩ ?_
        show wp 8 94 (13, [some (vr 0), some (vi a1), some (vi a2), some (vi a3)], [vi 0], (Wd S L F G h)) _
        refine pt94 (s' := (23, [some (vr 0), some (vi a1), some (vi a2), some (vi a3)], [vi (-1)], (Wd S L F G h))) (by decide) [1, 0] rfl ⟨trivial, ⟨(by decide : R32 0), (by decide : (0 : Int) = (0 : Int))⟩⟩ ?_
        exact wp.fin (v := some (vi (-1))) (by decide) am_m94 rfl ⟨_, rfl, Or.inl rfl, rfl⟩ H
      · rw [if_neg c5] at H
        refine pt101 (s' := (7, [some (vi a2), some (vi 0), some (vi 3)], [vi 3, vi a2], (Wd S L F G h))) (by decide) [0, 0, 0] rfl ⟨trivial, ⟨⟨g4, (by decide : R32 0)⟩, c5⟩⟩ ?_
        by_cases c6 : 3 < a2
        · rw [if_pos c6] at H
          refine pt101 (s' := (15, [some (vi a2), some (vi 0), some (vi 3)], [vi 0], (Wd S L F G h))) (by decide) [1, 0] rfl ⟨trivial, ⟨⟨g4, (by decide : R32 3)⟩, c6⟩⟩ ?_
          refine wp.fin (v := some (vi 0)) (by decide) am_m101 rfl ⟨_, rfl, Or.inr ⟨rfl, Or.inl rfl⟩, rfl⟩ ?_
          show wp 8 94 (13, [some (vr 0), some (vi a1), some (vi a2), some (vi a3)], [vi 0], (Wd S L F G h)) _
          refine pt94 (s' := (23, [some (vr 0), some (vi a1), some (vi a2), some (vi a3)], [vi (-1)], (Wd S L F G h))) (by decide) [1, 0] rfl ⟨trivial, ⟨(by decide : R32 0), (by decide : (0 : Int) = (0 : Int))⟩⟩ ?_
          exact wp.fin (v := some (vi (-1))) (by decide) am_m94 rfl ⟨_, rfl, Or.inl rfl, rfl⟩ H
        · rw [if_neg c6] at H
          refine pt101 (s' := (15, [some (vi a2), some (vi 0), some (vi 3)], [vi 1], (Wd S L F G h))) (by decide) [0, 0, 0] rfl ⟨trivial, ⟨⟨g4, (by decide : R32 3)⟩, c6⟩⟩ ?_
          refine wp.fin (v := some (vi 1)) (by decide) am_m101 rfl ⟨_, rfl, Or.inr ⟨rfl, Or.inr rfl⟩, rfl⟩ ?_
          show wp 8 94 (13, [some (vr 0), some (vi a1), some (vi a2), some (vi a3)], [vi 1], (Wd S L F G h)) _
          obtain ⟨g7, H⟩ := H
          refine pt94 (s' := (19, [some (vr 0), some (vi a1), some (vi a2), some (vi a3)], [vi 24, vi a3], (Wd S L F G h))) (by decide) [0, 0, 0] rfl ⟨trivial, ⟨(by decide : R32 1), (by decide : ¬ (1 : Int) = (0 : Int))⟩⟩ ?_
          by_cases c8 : a3 ≤ 24
          · rw [if_pos c8] at H
            refine pt94 (s' := (25, [some (vr 0), some (vi a1), some (vi a2), some (vi a3)], [vi a3], (Wd S L F G h))) (by decide) [1, 0] rfl ⟨trivial, ⟨⟨g7, (by decide : R32 24)⟩, c8⟩⟩ ?_
            by_cases c9 : 0 ≤ a3
            · rw [if_pos c9] at H
              obtain ⟨g10, H⟩ := H
              refine pt94 (s' := (39, [some (vr 0), some (vi a1), some (vi a2), some (vi a3)], [vi a3, vi a2, vr (289 + 2 * a1.toNat)], (Wd S L F G h))) (by decide) [1, 0, 288, 0, (289 + 2 * a1.toNat), 0, 0] rfl ⟨⟨⟨trivial, ⟨g7, c9⟩⟩, ⟨Nat.le_of_ble_eq_true rfl, rfl, hh _ _ _ rfl⟩⟩, ⟨Nat.le_of_ble_eq_true rfl, Or.inr (Or.inr rfl), g10, (hh_rows hh g10)⟩⟩ ?_
              refine wp.cl am_m94 rfl am_m19 6 [vr (289 + 2 * a1.toNat), vi a2, vi a3] [] rfl (Nat.le_of_ble_eq_true rfl) ⟨(Nat.le_of_ble_eq_true rfl), (Nat.le_of_ble_eq_true rfl)⟩ rfl (Nat.le_of_ble_eq_true rfl) rfl (Nat.le_of_ble_eq_true rfl) (Nat.le_of_ble_eq_true rfl) ⟨_, _, rfl, (YSP.o (YSP.of g10)).1, (YSP.o (YSP.of g10)).2⟩ ?_
              refine wp.mono H ?_
              rintro v w1 ⟨F11, G12, rfl, rfl, H⟩
              show wp 8 94 (42, [some (vr 0), some (vi a1), some (vi a2), some (vi a3)], [], (Wd S L F11 G12 h)) _
              refine pt94 (s' := (43, [some (vr 0), some (vi a1), some (vi a2), some (vi a3)], [vi a3], (Wd S L F11 G12 h))) (by decide) [0] rfl trivial ?_
              exact wp.fin (v := some (vi a3)) (by decide) am_m94 rfl ⟨_, rfl, Or.inl rfl, rfl⟩ H
            · rw [if_neg c9] at H
              refine pt94 (s' := (30, [some (vr 0), some (vi a1), some (vi a2), some (vi a3)], [vi (-14)], (Wd S L F G h))) (by decide) [0, 0] rfl ⟨trivial, ⟨g7, c9⟩⟩ ?_
              exact wp.fin (v := some (vi (-14))) (by decide) am_m94 rfl ⟨_, rfl, Or.inl rfl, rfl⟩ H
          · rw [if_neg c8] at H
            refine pt94 (s' := (23, [some (vr 0), some (vi a1), some (vi a2), some (vi a3)], [vi (-1)], (Wd S L F G h))) (by decide) [0, 0] rfl ⟨trivial, ⟨⟨g7, (by decide : R32 24)⟩, c8⟩⟩ ?_
            exact wp.fin (v := some (vi (-1))) (by decide) am_m94 rfl ⟨_, rfl, Or.inl rfl, rfl⟩ H
set_option maxRecDepth 100000 in
set_option maxHeartbeats 4000000 in
theorem T95_0 {S L : Nat} {F G : Nat → Nat → Int} {h : Nat → Nat → Option Nat} (hh : RfH h) {a1 : Int}  {Q : Option V2 → W2 → Prop}
    (H : (R32 a1 ∧
 (if a1 < 0 then
  Q (some (vi (-1))) (Wd S L F G h)
 else
  (if 3 < a1 then
   Q (some (vi (-1))) (Wd S L F G h)
  else
   ((0 ≤ a1 ∧ a1 < 4) ∧
   R32 (F (289 + 2 * a1.toNat) 0) ∧
   (if (F (289 + 2 * a1.toNat) 0) = 0 then
    Q (some (vi (-11))) (Wd S L F G h)
   else
    Q (some (vi ((am_up F (289 + 2 * a1.toNat) 0 0) (289 + 2 * a1.toNat) 2))) (Wd S L (am_up F (289 + 2 * a1.toNat) 0 0) G h))))))) : C95_0 a1 (Wd S L F G h) Q := by
  refine pt95 (s' := (1, [some (vr 0), some (vi a1)], [vi a1], (Wd S L F G h))) (by decide) [0] rfl trivial ?_
  refine wp.cl am_m95 rfl am_m104 7 [vi a1] [] rfl (Nat.le_of_ble_eq_true rfl) ⟨(Nat.le_of_ble_eq_true rfl), (Nat.le_of_ble_eq_true rfl)⟩ rfl (Nat.le_of_ble_eq_true rfl) rfl (Nat.le_of_ble_eq_true rfl) (Nat.le_of_ble_eq_true rfl) trivial ?_
  refine pt104 (s' := (3, [some (vi a1)], [vi 3, vi 0, vi a1], (Wd S L F G h))) (by decide) [0, 0, 0] rfl trivial ?_
  refine wp.cl am_m104 rfl am_m101 6 [vi a1, vi 0, vi 3] [] rfl (Nat.le_of_ble_eq_true rfl) ⟨(Nat.le_of_ble_eq_true rfl), (Nat.le_of_ble_eq_true rfl)⟩ rfl (Nat.le_of_ble_eq_true rfl) rfl (Nat.le_of_ble_eq_true rfl) (Nat.le_of_ble_eq_true rfl) trivial ?_
  obtain ⟨g1, H⟩ := H
  refine pt101 (s' := (2, [some (vi a1), some (vi 0), some (vi 3)], [vi 0, vi a1], (Wd S L F G h))) (by decide) [0, 0] rfl trivial ?_
  by_cases c2 : a1 < 0
  · rw [if_pos c2] at H
    refine pt101 (s' := (15, [some (vi a1), some (vi 0), some (vi 3)], [vi 0], (Wd S L F G h))) (by decide) [1, 0] rfl ⟨trivial, ⟨⟨g1, (by decide : R32 0)⟩, c2⟩⟩ ?_
    refine wp.fin (v := some (vi 0)) (by decide) am_m101 rfl ⟨_, rfl, Or.inr ⟨rfl, Or.inl rfl⟩, rfl⟩ ?_
    show wp 7 104 (6, [some (vi a1)], [vi 0], (Wd S L F G h)) _
    refine wp.fin (v := some (vi 0)) (by decide) am_m104 rfl ⟨_, rfl, Or.inr ⟨rfl, Or.inl rfl⟩, rfl⟩ ?_
    show wp 8 95 (4, [some (vr 0), some (vi a1)], [vi 0], (Wd S L F G h)) _
    refine pt95 (s' := (8, [some (vr 0), some (vi a1)], [vi (-1)], (Wd S L F G h))) (by decide) [0, 0] rfl ⟨trivial, ⟨(by decide : R32 0), (by decide : (0 : Int) = (0 : Int))⟩⟩ ?_
    exact wp.fin (v := some (vi (-1))) (by decide) am_m95 rfl ⟨_, rfl, Or.inl rfl, rfl⟩ H
  · rw [if_neg c2] at H
    refine pt101 (s' := (7, [some (vi a1), some (vi 0), some (vi 3)], [vi 3, vi a1], (Wd S L F G h))) (by decide) [0, 0, 0] rfl ⟨trivial, ⟨⟨g1, (by decide : R32 0)⟩, c2⟩⟩ ?_
    by_cases c3 : 3 < a1
    · rw [if_pos c3] at H
      refine pt101 (s' := (15, [some (vi a1), some (vi 0), some (vi 3)], [vi 0], (Wd S L F G h))) (by decide) [1, 0] rfl ⟨trivial, ⟨⟨g1, (by decide : R32 3)⟩, c3⟩⟩ ?_
      refine wp.fin (v := some (vi 0)) (by decide) am_m101 rfl ⟨_, rfl, Or.inr ⟨rfl, Or.inl rfl⟩, rfl⟩ ?_
      show wp 7 104 (6, [some (vi a1)], [vi 0], (Wd S L F G h)) _
      refine wp.fin (v := some (vi 0)) (by decide) am_m104 rfl ⟨_, rfl, Or.inr ⟨rfl, Or.inl rfl⟩, rfl⟩ ?_
      show wp 8 95 (4, [some (vr 0), some (vi a1)], [vi 0], (Wd S L F G h)) _
      refine pt95 (s' := (8, [some (vr 0), some (vi a1)], [vi (-1)], (Wd S L F G h))) (by decide) [0, 0] rfl ⟨trivial, ⟨(by decide : R32 0), (by decide : (0 : Int) = (0 : Int))⟩⟩ ?_
      exact wp.fin (v := some (vi (-1))) (by decide) am_m95 rfl ⟨_, rfl, Or.inl rfl, rfl⟩ H
    · rw [if_neg c3] at H
      refine pt101 (s' := (15, [some (vi a1), some (vi 0), some (vi 3)], [vi 1], (Wd S L F G h))) (by decide) [0, 0, 0] rfl ⟨trivial, ⟨⟨g1, (by decide : R32 3)⟩, c3⟩⟩ ?_
      refine wp.fin (v := some (vi 1)) (by decide) am_m101 rfl ⟨_, rfl, Or.inr ⟨rfl, Or.inr rfl⟩, rfl⟩ ?_
      show wp 7 104 (6, [some (vi a1)], [vi 1], (Wd S L F G h)) _
      refine wp.fin (v := some (vi 1)) (by decide) am_m104 rfl ⟨_, rfl, Or.inr ⟨rfl, Or.inr rfl⟩, rfl⟩ ?_
      show wp 8 95 (4, [some (vr 0), some (vi a1)], [vi 1], (Wd S L F G h)) _
      obtain ⟨g4, H⟩ := H
      obtain ⟨g5, H⟩ := H
      refine pt95 (s' := (18, [some (vr 0), some (vi a1)], [vi (F (289 + 2 * a1.toNat) 0)], (Wd S L F G h))) (by decide) [1, 0, 288, 0, (289 + 2 * a1.toNat), 0] rfl ⟨⟨⟨⟨trivial, ⟨(by decide : R32 1), (by decide : ¬ (1 : Int) = (0 : Int))⟩⟩, ⟨Nat.le_of_ble_eq_true rfl, rfl, hh _ _ _ rfl⟩⟩, ⟨Nat.le_of_ble_eq_true rfl, Or.inr (Or.inr rfl), g4, (hh_rows hh g4)⟩⟩, ⟨(YSP.o (YSP.of g4)).1, (YSP.o (YSP.of g4)).2⟩⟩ ?_
      by_cases c6 : (F (289 + 2 * a1.toNat) 0) = 0
      · rw [if_pos c6] at H
        refine pt95 (s' := (23, [some (vr 0), some (vi a1)], [vi (-11)], (Wd S L F G h))) (by decide) [0, 0] rfl ⟨trivial, ⟨g5, c6⟩⟩ ?_
        exact wp.fin (v := some (vi (-11))) (by decide) am_m95 rfl ⟨_, rfl, Or.inl rfl, rfl⟩ H
      · rw [if_neg c6] at H
        refine pt95 (s' := (43, [some (vr 0), some (vi a1)], [vi ((am_up F (289 + 2 * a1.toNat) 0 0) (289 + 2 * a1.toNat) 2)], (Wd S L (am_up F (289 + 2 * a1.toNat) 0 0) G h))) (by decide) [1, 0, 288, 0, (289 + 2 * a1.toNat), 0, 0, 0, 288, 0, (289 + 2 * a1.toNat), 0] rfl ⟨⟨⟨⟨⟨⟨⟨trivial, ⟨g5, c6⟩⟩, ⟨Nat.le_of_ble_eq_true rfl, rfl, hh _ _ _ rfl⟩⟩, ⟨Nat.le_of_ble_eq_true rfl, Or.inr (Or.inr rfl), g4, (hh_rows hh g4)⟩⟩, ⟨(YSP.o (YSP.of g4)).1, (YSP.o (YSP.of g4)).2, fun _ => Or.inl rfl⟩⟩, ⟨Nat.le_of_ble_eq_true rfl, rfl, hh _ _ _ rfl⟩⟩, ⟨Nat.le_of_ble_eq_true rfl, Or.inr (Or.inr rfl), g4, (hh_rows hh g4)⟩⟩, ⟨(YSP.o (YSP.of g4)).1, (YSP.o (YSP.of g4)).2⟩⟩ ?_
        exact wp.fin (v := some (vi ((am_up F (289 + 2 * a1.toNat) 0 0) (289 + 2 * a1.toNat) 2))) (by decide) am_m95 rfl ⟨_, rfl, Or.inl rfl, rfl⟩ H
set_option maxRecDepth 100000 in
set_option maxHeartbeats 4000000 in
theorem T96_0 {S L : Nat} {F G : Nat → Nat → Int} {h : Nat → Nat → Option Nat} (hh : RfH h) {a1 : Int} {a2 : Int} {a3 : Int} {a4 : Int}  {Q : Option V2 → W2 → Prop}
    (H : C100_0 a1 a2 (Wd S L F G h) (fun v w1 => ∃ (v1 : Int), v = some (vi v1) ∧ w1 = (Wd S L F G h) ∧
  (R32 v1 ∧
  (if 0 ≤ v1 then
   ((0 ≤ a1 ∧ a1 < 4) ∧
   C20_0 (289 + 2 * a1.toNat) a3 1 (Wd S L F G h) (fun v w1 => ∃ (v5 : Int), v = some (vi v5) ∧ w1 = (Wd S L F G h) ∧
    (R32 v5 ∧
    (if v5 = 0 then
     Q (some (vi (-13))) (Wd S L F G h)
    else
     C21_0 (289 + 2 * a1.toNat) a3 a4 (Wd S L F G h) (fun v w1 => ∃ (G8 : Nat → Nat → Int), v = none ∧ w1 = (Wd S L F G8 h) ∧
      Q (some (vi 1)) (Wd S L F G8 h))))))
  else
   Q (some (vi v1)) (Wd S L F G h))))) : C96_0 a1 a2 a3 a4 (Wd S L F G h) Q := by
  refine pt96 (s' := (3, [some (vr 0), some (vi a1), some (vi a2), some (vi a3), some (vj a4), none, none], [vi a2, vi a1, vr 0], (Wd S L F G h))) (by decide) [0, 0, 0] rfl trivial ?_
  refine wp.cl am_m96 rfl am_m100 8 [vr 0, vi a1, vi a2] [] rfl (Nat.le_of_ble_eq_true rfl) ⟨(Nat.le_of_ble_eq_true rfl), (Nat.le_of_ble_eq_true rfl)⟩ rfl (Nat.le_of_ble_eq_true rfl) rfl (Nat.le_of_ble_eq_true rfl) (Nat.le_of_ble_eq_true rfl) ⟨_, _, rfl, Nat.le_of_ble_eq_true rfl, rfl⟩ ?_
  refine wp.mono H ?_
  rintro v w1 ⟨v1, rfl, rfl, H⟩
  show wp 9 96 (6, [some (vr 0), some (vi a1), some (vi a2), some (vi a3), some (vj a4), none, none], [vi v1], (Wd S L F G h)) _
  obtain ⟨g2, H⟩ := H
  refine pt96 (s' := (10, [some (vr 0), some (vi a1), some (vi a2), some (vi a3), some (vj a4), none, some (vi v1)], [vi v1], (Wd S L F G h))) (by decide) [0, 0] rfl trivial ?_
  by_cases c3 : 0 ≤ v1
  · rw [if_pos c3] at H
    obtain ⟨g4, H⟩ := H
    refine pt96 (s' := (24, [some (vr 0), some (vi a1), some (vi a2), some (vi a3), some (vj a4), none, some (vi v1)], [vi 1, vi a3, vr (289 + 2 * a1.toNat)], (Wd S L F G h))) (by decide) [1, 0, 288, 0, (289 + 2 * a1.toNat), 0, 0] rfl ⟨⟨⟨trivial, ⟨g2, c3⟩⟩, ⟨Nat.le_of_ble_eq_true rfl, rfl, hh _ _ _ rfl⟩⟩, ⟨Nat.le_of_ble_eq_true rfl, Or.inr (Or.inr rfl), g4, (hh_rows hh g4)⟩⟩ ?_
    refine wp.cl am_m96 rfl am_m20 6 [vr (289 + 2 * a1.toNat), vi a3, vi 1] [] rfl (Nat.le_of_ble_eq_true rfl) ⟨(Nat.le_of_ble_eq_true rfl), (Nat.le_of_ble_eq_true rfl)⟩ rfl (Nat.le_of_ble_eq_true rfl) rfl (Nat.le_of_ble_eq_true rfl) (Nat.le_of_ble_eq_true rfl) ⟨_, _, rfl, (YSP.o (YSP.of g4)).1, (YSP.o (YSP.of g4)).2⟩ ?_
    refine wp.mono H ?_
    rintro v w1 ⟨v5, rfl, rfl, H⟩
    show wp 9 96 (27, [some (vr 0), some (vi a1), some (vi a2), some (vi a3), some (vj a4), none, some (vi v1)], [vi v5], (Wd S L F G h)) _
    obtain ⟨g6, H⟩ := H
    by_cases c7 : v5 = 0
    · rw [if_pos c7] at H
      refine pt96 (s' := (32, [some (vr 0), some (vi a1), some (vi a2), some (vi a3), some (vj a4), none, some (vi v1)], [vi (-13)], (Wd S L F G h))) (by decide) [0, 0] rfl ⟨trivial, ⟨g6, c7⟩⟩ ?_
      exact wp.fin (v := some (vi (-13))) (by decide) am_m96 rfl ⟨_, rfl, Or.inl rfl, rfl⟩ H
    · rw [if_neg c7] at H
      refine pt96 (s' := (42, [some (vr 0), some (vi a1), some (vi a2), some (vi a3), some (vj a4), none, some (vi v1)], [vj a4, vi a3, vr (289 + 2 * a1.toNat)], (Wd S L F G h))) (by decide) [1, 0, 288, 0, (289 + 2 * a1.toNat), 0, 0] rfl ⟨⟨⟨trivial, ⟨g6, c7⟩⟩, ⟨Nat.le_of_ble_eq_true rfl, rfl, hh _ _ _ rfl⟩⟩, ⟨Nat.le_of_ble_eq_true rfl, Or.inr (Or.inr rfl), g4, (hh_rows hh g4)⟩⟩ ?_
      refine wp.cl am_m96 rfl am_m21 6 [vr (289 + 2 * a1.toNat), vi a3, vj a4] [] rfl (Nat.le_of_ble_eq_true rfl) ⟨(Nat.le_of_ble_eq_true rfl), (Nat.le_of_ble_eq_true rfl)⟩ rfl (Nat.le_of_ble_eq_true rfl) rfl (Nat.le_of_ble_eq_true rfl) (Nat.le_of_ble_eq_true rfl) ⟨_, _, rfl, (YSP.o (YSP.of g4)).1, (YSP.o (YSP.of g4)).2⟩ ?_
      refine wp.mono H ?_
      rintro v w1 ⟨G8, rfl, rfl, H⟩
      show wp 9 96 (45, [some (vr 0), some (vi a1), some (vi a2), some (vi a3), some (vj a4), none, some (vi v1)], [], (Wd S L F G8 h)) _
      refine pt96 (s' := (46, [some (vr 0), some (vi a1), some (vi a2), some (vi a3), some (vj a4), none, some (vi v1)], [vi 1], (Wd S L F G8 h))) (by decide) [0] rfl trivial ?_
      exact wp.fin (v := some (vi 1)) (by decide) am_m96 rfl ⟨_, rfl, Or.inl rfl, rfl⟩ H
  · rw [if_neg c3] at H
    refine pt96 (s' := (15, [some (vr 0), some (vi a1), some (vi a2), some (vi a3), some (vj a4), none, some (vi v1)], [vi v1], (Wd S L F G h))) (by decide) [0, 0] rfl ⟨trivial, ⟨g2, c3⟩⟩ ?_
    exact wp.fin (v := some (vi v1)) (by decide) am_m96 rfl ⟨_, rfl, Or.inl rfl, rfl⟩ H
set_option maxRecDepth 100000 in
set_option maxHeartbeats 4000000 in
theorem T99_0 {S L : Nat} {F G : Nat → Nat → Int} {h : Nat → Nat → Option Nat} (hh : RfH h)   {Q : Option V2 → W2 → Prop}
    (H : (R32 (F 284 4) ∧
 (if (F 284 4) = 1 then
  C36_0 (F 284 7) (Wd S L F G h) (fun v w1 => ∃ (v3 : Int) (F4 : Nat → Nat → Int), v = some (vi v3) ∧ w1 = (Wd S L F4 G h) ∧
   Q (some (vi v3)) (Wd S L F4 G h))
 else
 (if (F 284 4) = 2 then
  C37_0 (F 284 8) (F 284 7) (Wd S L F G h) (fun v w1 => ∃ (v6 : Int) (F7 : Nat → Nat → Int), v = some (vi v6) ∧ w1 = (Wd S L F7 G h) ∧
   Q (some (vi v6)) (Wd S L F7 G h))
 else
 (if (F 284 4) = 3 then
  C34_0 (F 284 8) (F 284 9) (Wd S L F G h) (fun v w1 => ∃ (v9 : Int) (F10 : Nat → Nat → Int), v = some (vi v9) ∧ w1 = (Wd S L F10 G h) ∧
   Q (some (vi v9)) (Wd S L F10 G h))
 else
 (if (F 284 4) = 4 then
  C35_0 (F 284 8) (Wd S L F G h) (fun v w1 => ∃ (v12 : Int) (F13 : Nat → Nat → Int), v = some (vi v12) ∧ w1 = (Wd S L F13 G h) ∧
   Q (some (vi v12)) (Wd S L F13 G h))
 else
 Q (some (vi (-1))) (Wd S L F G h))))))) : C99_0  (Wd S L F G h) Q := by
  obtain ⟨g1, H⟩ := H
  refine pt99 (s' := (7, [some (vr 0)], [vi (F 284 4)], (Wd S L F G h))) (by decide) [0, 284, 0] rfl ⟨⟨trivial, ⟨Nat.le_of_ble_eq_true rfl, rfl, hh _ _ _ rfl⟩⟩, ⟨Nat.le_of_ble_eq_true rfl, rfl⟩⟩ ?_
  by_cases c2 : (F 284 4) = 1
  · rw [if_pos c2] at H
    refine pt99 (s' := (61, [some (vr 0)], [vi (F 284 7), vr 287, vr 286, vr 1], (Wd S L F G h))) (by decide) [1, 0, 1, 0, 284, 286, 0, 284, 287, 0, 284, 0] rfl ⟨⟨⟨⟨⟨⟨⟨⟨trivial, ⟨g1, (by omega : ¬ (F 284 4) < 1), (by omega : ¬ 4 < (F 284 4)), c2⟩⟩, ⟨Nat.le_of_ble_eq_true rfl, rfl, hh _ _ _ rfl⟩⟩, ⟨Nat.le_of_ble_eq_true rfl, rfl, hh _ _ _ rfl⟩⟩, ⟨Nat.le_of_ble_eq_true rfl, rfl, hh _ _ _ rfl⟩⟩, ⟨Nat.le_of_ble_eq_true rfl, rfl, hh _ _ _ rfl⟩⟩, ⟨Nat.le_of_ble_eq_true rfl, rfl, hh _ _ _ rfl⟩⟩, ⟨Nat.le_of_ble_eq_true rfl, rfl, hh _ _ _ rfl⟩⟩, ⟨Nat.le_of_ble_eq_true rfl, rfl⟩⟩ ?_
    refine wp.cl am_m99 rfl am_m36 9 [vr 1, vr 286, vr 287, vi (F 284 7)] [] rfl (Nat.le_of_ble_eq_true rfl) ⟨(Nat.le_of_ble_eq_true rfl), (Nat.le_of_ble_eq_true rfl)⟩ rfl (Nat.le_of_ble_eq_true rfl) rfl (Nat.le_of_ble_eq_true rfl) (Nat.le_of_ble_eq_true rfl) ⟨_, _, rfl, Nat.le_of_ble_eq_true rfl, rfl⟩ ?_
    refine wp.mono H ?_
    rintro v w1 ⟨v3, F4, rfl, rfl, H⟩
    show wp 10 99 (64, [some (vr 0)], [vi v3], (Wd S L F4 G h)) _
    exact wp.fin (v := some (vi v3)) (by decide) am_m99 rfl ⟨_, rfl, Or.inl rfl, rfl⟩ H
  · rw [if_neg c2] at H
    by_cases c5 : (F 284 4) = 2
    · rw [if_pos c5] at H
      refine pt99 (s' := (90, [some (vr 0)], [vi (F 284 7), vr 286, vi (F 284 8), vr 1], (Wd S L F G h))) (by decide) [2, 0, 1, 0, 284, 0, 0, 284, 286, 0, 284, 0] rfl ⟨⟨⟨⟨⟨⟨⟨⟨trivial, ⟨g1, (by omega : ¬ (F 284 4) < 1), (by omega : ¬ 4 < (F 284 4)), c5⟩⟩, ⟨Nat.le_of_ble_eq_true rfl, rfl, hh _ _ _ rfl⟩⟩, ⟨Nat.le_of_ble_eq_true rfl, rfl, hh _ _ _ rfl⟩⟩, ⟨Nat.le_of_ble_eq_true rfl, rfl⟩⟩, ⟨Nat.le_of_ble_eq_true rfl, rfl, hh _ _ _ rfl⟩⟩, ⟨Nat.le_of_ble_eq_true rfl, rfl, hh _ _ _ rfl⟩⟩, ⟨Nat.le_of_ble_eq_true rfl, rfl, hh _ _ _ rfl⟩⟩, ⟨Nat.le_of_ble_eq_true rfl, rfl⟩⟩ ?_
      refine wp.cl am_m99 rfl am_m37 8 [vr 1, vi (F 284 8), vr 286, vi (F 284 7)] [] rfl (Nat.le_of_ble_eq_true rfl) ⟨(Nat.le_of_ble_eq_true rfl), (Nat.le_of_ble_eq_true rfl)⟩ rfl (Nat.le_of_ble_eq_true rfl) rfl (Nat.le_of_ble_eq_true rfl) (Nat.le_of_ble_eq_true rfl) ⟨_, _, rfl, Nat.le_of_ble_eq_true rfl, rfl⟩ ?_
      refine wp.mono H ?_
      rintro v w1 ⟨v6, F7, rfl, rfl, H⟩
      show wp 10 99 (93, [some (vr 0)], [vi v6], (Wd S L F7 G h)) _
      exact wp.fin (v := some (vi v6)) (by decide) am_m99 rfl ⟨_, rfl, Or.inl rfl, rfl⟩ H
    · rw [if_neg c5] at H
      by_cases c8 : (F 284 4) = 3
      · rw [if_pos c8] at H
        refine pt99 (s' := (112, [some (vr 0)], [vi (F 284 9), vi (F 284 8), vr 1], (Wd S L F G h))) (by decide) [3, 0, 1, 0, 284, 0, 0, 284, 0] rfl ⟨⟨⟨⟨⟨⟨trivial, ⟨g1, (by omega : ¬ (F 284 4) < 1), (by omega : ¬ 4 < (F 284 4)), c8⟩⟩, ⟨Nat.le_of_ble_eq_true rfl, rfl, hh _ _ _ rfl⟩⟩, ⟨Nat.le_of_ble_eq_true rfl, rfl, hh _ _ _ rfl⟩⟩, ⟨Nat.le_of_ble_eq_true rfl, rfl⟩⟩, ⟨Nat.le_of_ble_eq_true rfl, rfl, hh _ _ _ rfl⟩⟩, ⟨Nat.le_of_ble_eq_true rfl, rfl⟩⟩ ?_
        refine wp.cl am_m99 rfl am_m34 8 [vr 1, vi (F 284 8), vi (F 284 9)] [] rfl (Nat.le_of_ble_eq_true rfl) ⟨(Nat.le_of_ble_eq_true rfl), (Nat.le_of_ble_eq_true rfl)⟩ rfl (Nat.le_of_ble_eq_true rfl) rfl (Nat.le_of_ble_eq_true rfl) (Nat.le_of_ble_eq_true rfl) ⟨_, _, rfl, Nat.le_of_ble_eq_true rfl, rfl⟩ ?_
        refine wp.mono H ?_
        rintro v w1 ⟨v9, F10, rfl, rfl, H⟩
        show wp 10 99 (115, [some (vr 0)], [vi v9], (Wd S L F10 G h)) _
        exact wp.fin (v := some (vi v9)) (by decide) am_m99 rfl ⟨_, rfl, Or.inl rfl, rfl⟩ H
      · rw [if_neg c8] at H
        by_cases c11 : (F 284 4) = 4
        · rw [if_pos c11] at H
          refine pt99 (s' := (127, [some (vr 0)], [vi (F 284 8), vr 1], (Wd S L F G h))) (by decide) [4, 0, 1, 0, 284, 0] rfl ⟨⟨⟨⟨trivial, ⟨g1, (by omega : ¬ (F 284 4) < 1), (by omega : ¬ 4 < (F 284 4)), c11⟩⟩, ⟨Nat.le_of_ble_eq_true rfl, rfl, hh _ _ _ rfl⟩⟩, ⟨Nat.le_of_ble_eq_true rfl, rfl, hh _ _ _ rfl⟩⟩, ⟨Nat.le_of_ble_eq_true rfl, rfl⟩⟩ ?_
          refine wp.cl am_m99 rfl am_m35 7 [vr 1, vi (F 284 8)] [] rfl (Nat.le_of_ble_eq_true rfl) ⟨(Nat.le_of_ble_eq_true rfl), (Nat.le_of_ble_eq_true rfl)⟩ rfl (Nat.le_of_ble_eq_true rfl) rfl (Nat.le_of_ble_eq_true rfl) (Nat.le_of_ble_eq_true rfl) ⟨_, _, rfl, Nat.le_of_ble_eq_true rfl, rfl⟩ ?_
          refine wp.mono H ?_
          rintro v w1 ⟨v12, F13, rfl, rfl, H⟩
          show wp 10 99 (130, [some (vr 0)], [vi v12], (Wd S L F13 G h)) _
          exact wp.fin (v := some (vi v12)) (by decide) am_m99 rfl ⟨_, rfl, Or.inl rfl, rfl⟩ H
        · rw [if_neg c11] at H
          refine pt99 (s' := (132, [some (vr 0)], [vi (-1)], (Wd S L F G h))) (by decide) [0, 0] rfl ⟨trivial, ⟨g1, (by omega : (F 284 4) < 1 ∨ 4 < (F 284 4))⟩⟩ ?_
          exact wp.fin (v := some (vi (-1))) (by decide) am_m99 rfl ⟨_, rfl, Or.inl rfl, rfl⟩ H
set_option maxRecDepth 100000 in
set_option maxHeartbeats 4000000 in
theorem T100_0 {S L : Nat} {F G : Nat → Nat → Int} {h : Nat → Nat → Option Nat} (hh : RfH h) {a1 : Int} {a2 : Int}  {Q : Option V2 → W2 → Prop}
    (H : (R32 a1 ∧
 (if a1 < 0 then
  Q (some (vi (-1))) (Wd S L F G h)
 else
  (if 3 < a1 then
   Q (some (vi (-1))) (Wd S L F G h)
  else
   (R32 a2 ∧
   (if a2 < 0 then
    Q (some (vi (-1))) (Wd S L F G h)
   else
    (if 3 < a2 then
     Q (some (vi (-1))) (Wd S L F G h)
    else
     ((0 ≤ a1 ∧ a1 < 4) ∧
     R32 (F (289 + 2 * a1.toNat) 0) ∧
     (if (F (289 + 2 * a1.toNat) 0) = 0 then
      Q (some (vi (-11))) (Wd S L F G h)
     else
      (R32 (F (289 + 2 * a1.toNat) 1) ∧
      (if (F (289 + 2 * a1.toNat) 1) = a2 then
       Q (some (vi 0)) (Wd S L F G h)
      else
       Q (some (vi (-12))) (Wd S L F G h)))))))))))) : C100_0 a1 a2 (Wd S L F G h) Q := by
  refine pt100 (s' := (1, [some (vr 0), some (vi a1), some (vi a2)], [vi a1], (Wd S L F G h))) (by decide) [0] rfl trivial ?_
  refine wp.cl am_m100 rfl am_m104 7 [vi a1] [] rfl (Nat.le_of_ble_eq_true rfl) ⟨(Nat.le_of_ble_eq_true rfl), (Nat.le_of_ble_eq_true rfl)⟩ rfl (Nat.le_of_ble_eq_true rfl) rfl (Nat.le_of_ble_eq_true rfl) (Nat.le_of_ble_eq_true rfl) trivial ?_
  refine pt104 (s' := (3, [some (vi a1)], [vi 3, vi 0, vi a1], (Wd S L F G h))) (by decide) [0, 0, 0] rfl trivial ?_
  refine wp.cl am_m104 rfl am_m101 6 [vi a1, vi 0, vi 3] [] rfl (Nat.le_of_ble_eq_true rfl) ⟨(Nat.le_of_ble_eq_true rfl), (Nat.le_of_ble_eq_true rfl)⟩ rfl (Nat.le_of_ble_eq_true rfl) rfl (Nat.le_of_ble_eq_true rfl) (Nat.le_of_ble_eq_true rfl) trivial ?_
  obtain ⟨g1, H⟩ := H
  refine pt101 (s' := (2, [some (vi a1), some (vi 0), some (vi 3)], [vi 0, vi a1], (Wd S L F G h))) (by decide) [0, 0] rfl trivial ?_
  by_cases c2 : a1 < 0
  · rw [if_pos c2] at H
    refine pt101 (s' := (15, [some (vi a1), some (vi 0), some (vi 3)], [vi 0], (Wd S L F G h))) (by decide) [1, 0] rfl ⟨trivial, ⟨⟨g1, (by decide : R32 0)⟩, c2⟩⟩ ?_
    refine wp.fin (v := some (vi 0)) (by decide) am_m101 rfl ⟨_, rfl, Or.inr ⟨rfl, Or.inl rfl⟩, rfl⟩ ?_
    show wp 7 104 (6, [some (vi a1)], [vi 0], (Wd S L F G h)) _
    refine wp.fin (v := some (vi 0)) (by decide) am_m104 rfl ⟨_, rfl, Or.inr ⟨rfl, Or.inl rfl⟩, rfl⟩ ?_
    show wp 8 100 (4, [some (vr 0), some (vi a1), some (vi a2)], [vi 0], (Wd S L F G h)) _
    refine pt100 (s' := (17, [some (vr 0), some (vi a1), some (vi a2)], [vi (-1)], (Wd S L F G h))) (by decide) [1, 0] rfl ⟨trivial, ⟨(by decide : R32 0), (by decide : (0 : Int) = (0 : Int))⟩⟩ ?_
    exact wp.fin (v := some (vi (-1))) (by decide) am_m100 rfl ⟨_, rfl, Or.inl rfl, rfl⟩ H
  · rw [if_neg c2] at H
    refine pt101 (s' := (7, [some (vi a1), some (vi 0), some (vi 3)], [vi 3, vi a1], (Wd S L F G h))) (by decide) [0, 0, 0] rfl ⟨trivial, ⟨⟨g1, (by decide : R32 0)⟩, c2⟩⟩ ?_
    by_cases c3 : 3 < a1
    · rw [if_pos c3] at H
      refine pt101 (s' := (15, [some (vi a1), some (vi 0), some (vi 3)], [vi 0], (Wd S L F G h))) (by decide) [1, 0] rfl ⟨trivial, ⟨⟨g1, (by decide : R32 3)⟩, c3⟩⟩ ?_
      refine wp.fin (v := some (vi 0)) (by decide) am_m101 rfl ⟨_, rfl, Or.inr ⟨rfl, Or.inl rfl⟩, rfl⟩ ?_
      show wp 7 104 (6, [some (vi a1)], [vi 0], (Wd S L F G h)) _
      refine wp.fin (v := some (vi 0)) (by decide) am_m104 rfl ⟨_, rfl, Or.inr ⟨rfl, Or.inl rfl⟩, rfl⟩ ?_
      show wp 8 100 (4, [some (vr 0), some (vi a1), some (vi a2)], [vi 0], (Wd S L F G h)) _
      refine pt100 (s' := (17, [some (vr 0), some (vi a1), some (vi a2)], [vi (-1)], (Wd S L F G h))) (by decide) [1, 0] rfl ⟨trivial, ⟨(by decide : R32 0), (by decide : (0 : Int) = (0 : Int))⟩⟩ ?_
      exact wp.fin (v := some (vi (-1))) (by decide) am_m100 rfl ⟨_, rfl, Or.inl rfl, rfl⟩ H
    · rw [if_neg c3] at H
      refine pt101 (s' := (15, [some (vi a1), some (vi 0), some (vi 3)], [vi 1], (Wd S L F G h))) (by decide) [0, 0, 0] rfl ⟨trivial, ⟨⟨g1, (by decide : R32 3)⟩, c3⟩⟩ ?_
      refine wp.fin (v := some (vi 1)) (by decide) am_m101 rfl ⟨_, rfl, Or.inr ⟨rfl, Or.inr rfl⟩, rfl⟩ ?_
      show wp 7 104 (6, [some (vi a1)], [vi 1], (Wd S L F G h)) _
      refine wp.fin (v := some (vi 1)) (by decide) am_m104 rfl ⟨_, rfl, Or.inr ⟨rfl, Or.inr rfl⟩, rfl⟩ ?_
      show wp 8 100 (4, [some (vr 0), some (vi a1), some (vi a2)], [vi 1], (Wd S L F G h)) _
      refine pt100 (s' := (10, [some (vr 0), some (vi a1), some (vi a2)], [vi 3, vi 0, vi a2], (Wd S L F G h))) (by decide) [0, 0, 0, 0] rfl ⟨trivial, ⟨(by decide : R32 1), (by decide : ¬ (1 : Int) = (0 : Int))⟩⟩ ?_
      refine wp.cl am_m100 rfl am_m101 6 [vi a2, vi 0, vi 3] [] rfl (Nat.le_of_ble_eq_true rfl) ⟨(Nat.le_of_ble_eq_true rfl), (Nat.le_of_ble_eq_true rfl)⟩ rfl (Nat.le_of_ble_eq_true rfl) rfl (Nat.le_of_ble_eq_true rfl) (Nat.le_of_ble_eq_true rfl) trivial ?_
      obtain ⟨g4, H⟩ := H
      refine pt101 (s' := (2, [some (vi a2), some (vi 0), some (vi 3)], [vi 0, vi a2], (Wd S L F G h))) (by decide) [0, 0] rfl trivial ?_
      by_cases c5 : a2 < 0
      · rw [if_pos c5] at H
        refine pt101 (s' := (15, [some (vi a2), some (vi 0), some (vi 3)], [vi 0], (Wd S L F G h))) (by decide) [1, 0] rfl ⟨trivial, ⟨⟨g4, (by decide : R32 0)⟩, c5⟩⟩ ?_
        refine wp.fin (v := some (vi 0)) (by decide) am_m101 rfl ⟨_, rfl, Or.inr ⟨rfl, Or.inl rfl⟩, rfl⟩ ?_
        show wp 8 100 (13, [some (vr 0), some (vi a1), some (vi a2)], [vi 0], (Wd S L F G h)) _
        refine pt100 (s' := (17, [some (vr 0), some (vi a1), some (vi a2)], [vi (-1)], (Wd S L F G h))) (by decide) [0, 0] rfl ⟨trivial, ⟨(by decide : R32 0), (by decide : (0 : Int) = (0 : Int))⟩⟩ ?_
        exact wp.fin (v := some (vi (-1))) (by decide) am_m100 rfl ⟨_, rfl, Or.inl rfl, rfl⟩ H
      · rw [if_neg c5] at H
        refine pt101 (s' := (7, [some (vi a2), some (vi 0), some (vi 3)], [vi 3, vi a2], (Wd S L F G h))) (by decide) [0, 0, 0] rfl ⟨trivial, ⟨⟨g4, (by decide : R32 0)⟩, c5⟩⟩ ?_
        by_cases c6 : 3 < a2
        · rw [if_pos c6] at H
          refine pt101 (s' := (15, [some (vi a2), some (vi 0), some (vi 3)], [vi 0], (Wd S L F G h))) (by decide) [1, 0] rfl ⟨trivial, ⟨⟨g4, (by decide : R32 3)⟩, c6⟩⟩ ?_
          refine wp.fin (v := some (vi 0)) (by decide) am_m101 rfl ⟨_, rfl, Or.inr ⟨rfl, Or.inl rfl⟩, rfl⟩ ?_
          show wp 8 100 (13, [some (vr 0), some (vi a1), some (vi a2)], [vi 0], (Wd S L F G h)) _
          refine pt100 (s' := (17, [some (vr 0), some (vi a1), some (vi a2)], [vi (-1)], (Wd S L F G h))) (by decide) [0, 0] rfl ⟨trivial, ⟨(by decide : R32 0), (by decide : (0 : Int) = (0 : Int))⟩⟩ ?_
          exact wp.fin (v := some (vi (-1))) (by decide) am_m100 rfl ⟨_, rfl, Or.inl rfl, rfl⟩ H
        · rw [if_neg c6] at H
          refine pt101 (s' := (15, [some (vi a2), some (vi 0), some (vi 3)], [vi 1], (Wd S L F G h))) (by decide) [0, 0, 0] rfl ⟨trivial, ⟨⟨g4, (by decide : R32 3)⟩, c6⟩⟩ ?_
          refine wp.fin (v := some (vi 1)) (by decide) am_m101 rfl ⟨_, rfl, Or.inr ⟨rfl, Or.inr rfl⟩, rfl⟩ ?_
          show wp 8 100 (13, [some (vr 0), some (vi a1), some (vi a2)], [vi 1], (Wd S L F G h)) _
          obtain ⟨g7, H⟩ := H
          obtain ⟨g8, H⟩ := H
          refine pt100 (s' := (27, [some (vr 0), some (vi a1), some (vi a2)], [vi (F (289 + 2 * a1.toNat) 0)], (Wd S L F G h))) (by decide) [1, 0, 288, 0, (289 + 2 * a1.toNat), 0] rfl ⟨⟨⟨⟨trivial, ⟨(by decide : R32 1), (by decide : ¬ (1 : Int) = (0 : Int))⟩⟩, ⟨Nat.le_of_ble_eq_true rfl, rfl, hh _ _ _ rfl⟩⟩, ⟨Nat.le_of_ble_eq_true rfl, Or.inr (Or.inr rfl), g7, (hh_rows hh g7)⟩⟩, ⟨(YSP.o (YSP.of g7)).1, (YSP.o (YSP.of g7)).2⟩⟩ ?_
          by_cases c9 : (F (289 + 2 * a1.toNat) 0) = 0
          · rw [if_pos c9] at H
            refine pt100 (s' := (32, [some (vr 0), some (vi a1), some (vi a2)], [vi (-11)], (Wd S L F G h))) (by decide) [0, 0] rfl ⟨trivial, ⟨g8, c9⟩⟩ ?_
            exact wp.fin (v := some (vi (-11))) (by decide) am_m100 rfl ⟨_, rfl, Or.inl rfl, rfl⟩ H
          · rw [if_neg c9] at H
            obtain ⟨g10, H⟩ := H
            refine pt100 (s' := (43, [some (vr 0), some (vi a1), some (vi a2)], [vi a2, vi (F (289 + 2 * a1.toNat) 1)], (Wd S L F G h))) (by decide) [1, 0, 288, 0, (289 + 2 * a1.toNat), 0, 0] rfl ⟨⟨⟨⟨trivial, ⟨g8, c9⟩⟩, ⟨Nat.le_of_ble_eq_true rfl, rfl, hh _ _ _ rfl⟩⟩, ⟨Nat.le_of_ble_eq_true rfl, Or.inr (Or.inr rfl), g7, (hh_rows hh g7)⟩⟩, ⟨(YSP.o (YSP.of g7)).1, (YSP.o (YSP.of g7)).2⟩⟩ ?_
            by_cases c11 : (F (289 + 2 * a1.toNat) 1) = a2
            · rw [if_pos c11] at H
              refine pt100 (s' := (52, [some (vr 0), some (vi a1), some (vi a2)], [vi 0], (Wd S L F G h))) (by decide) [0, 0, 0] rfl ⟨trivial, ⟨⟨g10, g4⟩, c11⟩⟩ ?_
              exact wp.fin (v := some (vi 0)) (by decide) am_m100 rfl ⟨_, rfl, Or.inl rfl, rfl⟩ H
            · rw [if_neg c11] at H
              refine pt100 (s' := (52, [some (vr 0), some (vi a1), some (vi a2)], [vi (-12)], (Wd S L F G h))) (by decide) [1, 0] rfl ⟨trivial, ⟨⟨g10, g4⟩, c11⟩⟩ ?_
              exact wp.fin (v := some (vi (-12))) (by decide) am_m100 rfl ⟨_, rfl, Or.inl rfl, rfl⟩ H
set_option maxRecDepth 100000 in
set_option maxHeartbeats 4000000 in
theorem T105_0 {S L : Nat} {F G : Nat → Nat → Int} {h : Nat → Nat → Option Nat} (hh : RfH h) {a0 : Int} {a1 : Int} {a2 : Int}  {Q : Option V2 → W2 → Prop}
    (H : (R32 a2 ∧
 (if a2 = 0 then
  C107_0 a0 a1 (Wd S L F G h) (fun v w1 => ∃ (v3 : Int), v = some (vj v3) ∧ w1 = (Wd S L F G h) ∧
   (R64 v3 ∧
   (if v3 = 0 then
    Q (some (vj 0)) (Wd S L F G h)
   else
    (((0 : Int) ≤ a0 ∧ (a0 : Int) ≤ 9223372036854775807 ∧ 0 < v3 ∧ v3 ≤ 9223372036854775807) ∧
    Q (some (vj (a0 / v3))) (Wd S L F G h)))))
 else
  C107_0 a0 a1 (Wd S L F G h) (fun v w1 => ∃ (v7 : Int), v = some (vj v7) ∧ w1 = (Wd S L F G h) ∧
   (R64 v7 ∧
   (if v7 = 0 then
    Q (some (vj 0)) (Wd S L F G h)
   else
    (((0 : Int) ≤ a1 ∧ (a1 : Int) ≤ 9223372036854775807 ∧ 0 < v7 ∧ v7 ≤ 9223372036854775807) ∧
    Q (some (vj (a1 / v7))) (Wd S L F G h)))))))) : C105_0 a0 a1 a2 (Wd S L F G h) Q := by
  obtain ⟨g1, H⟩ := H
  refine pt105 (s' := (2, [some (vj a0), none, some (vj a1), none, some (vi a2)], [vi a2], (Wd S L F G h))) (by decide) [0] rfl trivial ?_
  by_cases c2 : a2 = 0
  · rw [if_pos c2] at H
    refine pt105 (s' := (12, [some (vj a0), none, some (vj a1), none, some (vi a2)], [vj a1, vj a0, vj a0], (Wd S L F G h))) (by decide) [0, 0, 0, 0, 0] rfl ⟨trivial, ⟨g1, c2⟩⟩ ?_
    refine wp.cl am_m105 rfl am_m107 6 [vj a0, vj a1] [vj a0] rfl (Nat.le_of_ble_eq_true rfl) ⟨(Nat.le_of_ble_eq_true rfl), (Nat.le_of_ble_eq_true rfl)⟩ rfl (Nat.le_of_ble_eq_true rfl) rfl (Nat.le_of_ble_eq_true rfl) (Nat.le_of_ble_eq_true rfl) trivial ?_
    refine wp.mono H ?_
    rintro v w1 ⟨v3, rfl, rfl, H⟩
    show wp 7 105 (15, [some (vj a0), none, some (vj a1), none, some (vi a2)], [vj v3, vj a0], (Wd S L F G h)) _
    refine wp.cl am_m105 rfl am_m106 6 [vj a0, vj v3] [] rfl (Nat.le_of_ble_eq_true rfl) ⟨(Nat.le_of_ble_eq_true rfl), (Nat.le_of_ble_eq_true rfl)⟩ rfl (Nat.le_of_ble_eq_true rfl) rfl (Nat.le_of_ble_eq_true rfl) (Nat.le_of_ble_eq_true rfl) trivial ?_
    obtain ⟨g4, H⟩ := H
    refine pt106 (s' := (3, [some (vj a0), none, some (vj v3), none], [vi (y_cmp v3 0)], (Wd S L F G h))) (by decide) [0, 0, 0] rfl ⟨trivial, (Or.inl ⟨g4, (by decide : R64 0)⟩)⟩ ?_
    by_cases c5 : v3 = 0
    · rw [if_pos c5] at H
      refine pt106 (s' := (13, [some (vj a0), none, some (vj v3), none], [vj 0], (Wd S L F G h))) (by decide) [0, 0, 0] rfl ⟨trivial, ⟨y_cmp_r32, (y_cmp_eq.mpr c5)⟩⟩ ?_
      refine wp.fin (v := some (vj 0)) (by decide) am_m106 rfl ⟨_, rfl, rfl, rfl⟩ ?_
      show wp 7 105 (18, [some (vj a0), none, some (vj a1), none, some (vi a2)], [vj 0], (Wd S L F G h)) _
      exact wp.fin (v := some (vj 0)) (by decide) am_m105 rfl ⟨_, rfl, rfl, rfl⟩ H
    · rw [if_neg c5] at H
      obtain ⟨g6, H⟩ := H
      refine pt106 (s' := (13, [some (vj a0), none, some (vj v3), none], [vj (a0 / v3)], (Wd S L F G h))) (by decide) [1, 0, 0, 0] rfl ⟨⟨trivial, ⟨y_cmp_r32, (y_cmp_ne.mpr c5)⟩⟩, g6⟩ ?_
      refine wp.fin (v := some (vj (a0 / v3))) (by decide) am_m106 rfl ⟨_, rfl, rfl, rfl⟩ ?_
      show wp 7 105 (18, [some (vj a0), none, some (vj a1), none, some (vi a2)], [vj (a0 / v3)], (Wd S L F G h)) _
      exact wp.fin (v := some (vj (a0 / v3))) (by decide) am_m105 rfl ⟨_, rfl, rfl, rfl⟩ H
  · rw [if_neg c2] at H
    refine pt105 (s' := (12, [some (vj a0), none, some (vj a1), none, some (vi a2)], [vj a1, vj a0, vj a1], (Wd S L F G h))) (by decide) [1, 0, 0, 0] rfl ⟨trivial, ⟨g1, c2⟩⟩ ?_
    refine wp.cl am_m105 rfl am_m107 6 [vj a0, vj a1] [vj a1] rfl (Nat.le_of_ble_eq_true rfl) ⟨(Nat.le_of_ble_eq_true rfl), (Nat.le_of_ble_eq_true rfl)⟩ rfl (Nat.le_of_ble_eq_true rfl) rfl (Nat.le_of_ble_eq_true rfl) (Nat.le_of_ble_eq_true rfl) trivial ?_
    refine wp.mono H ?_
    rintro v w1 ⟨v7, rfl, rfl, H⟩
    show wp 7 105 (15, [some (vj a0), none, some (vj a1), none, some (vi a2)], [vj v7, vj a1], (Wd S L F G h)) _
    refine wp.cl am_m105 rfl am_m106 6 [vj a1, vj v7] [] rfl (Nat.le_of_ble_eq_true rfl) ⟨(Nat.le_of_ble_eq_true rfl), (Nat.le_of_ble_eq_true rfl)⟩ rfl (Nat.le_of_ble_eq_true rfl) rfl (Nat.le_of_ble_eq_true rfl) (Nat.le_of_ble_eq_true rfl) trivial ?_
    obtain ⟨g8, H⟩ := H
    refine pt106 (s' := (3, [some (vj a1), none, some (vj v7), none], [vi (y_cmp v7 0)], (Wd S L F G h))) (by decide) [0, 0, 0] rfl ⟨trivial, (Or.inl ⟨g8, (by decide : R64 0)⟩)⟩ ?_
    by_cases c9 : v7 = 0
    · rw [if_pos c9] at H
      refine pt106 (s' := (13, [some (vj a1), none, some (vj v7), none], [vj 0], (Wd S L F G h))) (by decide) [0, 0, 0] rfl ⟨trivial, ⟨y_cmp_r32, (y_cmp_eq.mpr c9)⟩⟩ ?_
      refine wp.fin (v := some (vj 0)) (by decide) am_m106 rfl ⟨_, rfl, rfl, rfl⟩ ?_
      show wp 7 105 (18, [some (vj a0), none, some (vj a1), none, some (vi a2)], [vj 0], (Wd S L F G h)) _
      exact wp.fin (v := some (vj 0)) (by decide) am_m105 rfl ⟨_, rfl, rfl, rfl⟩ H
    · rw [if_neg c9] at H
      obtain ⟨g10, H⟩ := H
      refine pt106 (s' := (13, [some (vj a1), none, some (vj v7), none], [vj (a1 / v7)], (Wd S L F G h))) (by decide) [1, 0, 0, 0] rfl ⟨⟨trivial, ⟨y_cmp_r32, (y_cmp_ne.mpr c9)⟩⟩, g10⟩ ?_
      refine wp.fin (v := some (vj (a1 / v7))) (by decide) am_m106 rfl ⟨_, rfl, rfl, rfl⟩ ?_
      show wp 7 105 (18, [some (vj a0), none, some (vj a1), none, some (vi a2)], [vj (a1 / v7)], (Wd S L F G h)) _
      exact wp.fin (v := some (vj (a1 / v7))) (by decide) am_m105 rfl ⟨_, rfl, rfl, rfl⟩ H
set_option maxRecDepth 100000 in
set_option maxHeartbeats 4000000 in
theorem T107_0 {S L : Nat} {F G : Nat → Nat → Int} {h : Nat → Nat → Option Nat} (hh : RfH h) {a0 : Int} {a1 : Int}  {Q : Option V2 → W2 → Prop}
    (H : C107_3 a0 a1 0 (Wd S L F G h) Q) : C107_0 a0 a1 (Wd S L F G h) Q := by
  refine pt107 (s' := (3, [some (vj a0), none, some (vj a1), none, some (vi 0), none, none], [], (Wd S L F G h))) (by decide) [0, 0] rfl trivial ?_
  exact wp.weak (a := [some (vj a0), none, some (vj a1), none, some (vi 0), none, none]) ⟨rfl, rfl, rfl, trivial⟩ H
set_option maxRecDepth 100000 in
set_option maxHeartbeats 4000000 in
theorem T107_3 {S L : Nat} {F G : Nat → Nat → Int} {h : Nat → Nat → Option Nat} (hh : RfH h) {x0 : Int} {x2 : Int} {x4 : Int}  {Q : Option V2 → W2 → Prop}
    (H : (R32 x4 ∧
 (if 100 ≤ x4 then
  Q (some (vj x0)) (Wd S L F G h)
 else
  (R64 x2 ∧
  (if x2 = 0 then
   Q (some (vj x0)) (Wd S L F G h)
  else
   (((0 : Int) ≤ x0 ∧ (x0 : Int) ≤ 9223372036854775807 ∧ 0 < x2 ∧ x2 ≤ 9223372036854775807) ∧
   C107_3 x2 (x0 % x2) (x4 + 1) (Wd S L F G h) Q)))))) : C107_3 x0 x2 x4 (Wd S L F G h) Q := by
  obtain ⟨g1, H⟩ := H
  refine pt107 (s' := (7, [some (vj x0), none, some (vj x2), none, some (vi x4), none, none], [vi 100, vi x4], (Wd S L F G h))) (by decide) [0, 0] rfl trivial ?_
  by_cases c2 : 100 ≤ x4
  · rw [if_pos c2] at H
    refine pt107 (s' := (33, [some (vj x0), none, some (vj x2), none, some (vi x4), none, none], [vj x0], (Wd S L F G h))) (by decide) [1, 0] rfl ⟨trivial, ⟨⟨g1, (by decide : R32 100)⟩, c2⟩⟩ ?_
    exact wp.fin (v := some (vj x0)) (by decide) am_m107 rfl ⟨_, rfl, rfl, rfl⟩ H
  · rw [if_neg c2] at H
    obtain ⟨g3, H⟩ := H
    refine pt107 (s' := (13, [some (vj x0), none, some (vj x2), none, some (vi x4), none, none], [vi (y_cmp x2 0)], (Wd S L F G h))) (by decide) [0, 0, 0, 0] rfl ⟨⟨trivial, ⟨⟨g1, (by decide : R32 100)⟩, c2⟩⟩, (Or.inl ⟨g3, (by decide : R64 0)⟩)⟩ ?_
    by_cases c4 : x2 = 0
    · rw [if_pos c4] at H
      refine pt107 (s' := (33, [some (vj x0), none, some (vj x2), none, some (vi x4), none, none], [vj x0], (Wd S L F G h))) (by decide) [1, 0] rfl ⟨trivial, ⟨y_cmp_r32, (y_cmp_eq.mpr c4)⟩⟩ ?_
      exact wp.fin (v := some (vj x0)) (by decide) am_m107 rfl ⟨_, rfl, rfl, rfl⟩ H
    · rw [if_neg c4] at H
      obtain ⟨g5, H⟩ := H
      refine pt107 (s' := (3, [some (vj x2), none, some (vj (x0 % x2)), none, some (vi (x4 + 1)), some (vj (x0 % x2)), none], [], (Wd S L F G h))) (by decide) [0, 0, 0, 0, 0, 0, 0, 0, 0, 0, 0] rfl ⟨⟨trivial, ⟨y_cmp_r32, (fun e => c4 (y_cmp_eq.mp e))⟩⟩, g5⟩ ?_
      exact wp.weak (a := [some (vj x2), none, some (vj (x0 % x2)), none, some (vi (x4 + 1)), none, none]) ⟨rfl, rfl, rfl, trivial⟩ H
set_option maxRecDepth 100000 in
set_option maxHeartbeats 4000000 in
theorem T109_0 {S L : Nat} {F G : Nat → Nat → Int} {h : Nat → Nat → Option Nat} (hh : RfH h) {a0 : Int}  {Q : Option V2 → W2 → Prop}
    (H : C109_2 a0 0 (Wd S L F G h) Q) : C109_0 a0 (Wd S L F G h) Q := by
  refine pt109 (s' := (2, [some (vi a0), some (vi 0)], [], (Wd S L F G h))) (by decide) [0, 0] rfl trivial ?_
  exact wp.weak (a := [some (vi a0), some (vi 0)]) ⟨rfl, rfl, trivial⟩ H
set_option maxRecDepth 100000 in
set_option maxHeartbeats 4000000 in
theorem T109_2 {S L : Nat} {F G : Nat → Nat → Int} {h : Nat → Nat → Option Nat} (hh : RfH h) {x0 : Int} {x1 : Int}  {Q : Option V2 → W2 → Prop}
    (H : (R32 x1 ∧
 (if 6 ≤ x1 then
  Q (some (vi x1)) (Wd S L F G h)
 else
  (R32 x0 ∧
  (if x0 < 8 then
   Q (some (vi x1)) (Wd S L F G h)
  else
   (((0 : Int) ≤ x0 ∧ x0 ≤ 2147483647) ∧
   C109_2 (x0 / 8) (x1 + 1) (Wd S L F G h) Q)))))) : C109_2 x0 x1 (Wd S L F G h) Q := by
  obtain ⟨g1, H⟩ := H
  refine pt109 (s' := (5, [some (vi x0), some (vi x1)], [vi 6, vi x1], (Wd S L F G h))) (by decide) [0, 0] rfl trivial ?_
  by_cases c2 : 6 ≤ x1
  · rw [if_pos c2] at H
    refine pt109 (s' := (26, [some (vi x0), some (vi x1)], [vi x1], (Wd S L F G h))) (by decide) [1, 0] rfl ⟨trivial, ⟨⟨g1, (by decide : R32 6)⟩, c2⟩⟩ ?_
    exact wp.fin (v := some (vi x1)) (by decide) am_m109 rfl ⟨_, rfl, Or.inl rfl, rfl⟩ H
  · rw [if_neg c2] at H
    obtain ⟨g3, H⟩ := H
    refine pt109 (s' := (11, [some (vi x0), some (vi x1)], [vi 8, vi x0], (Wd S L F G h))) (by decide) [0, 0, 0] rfl ⟨trivial, ⟨⟨g1, (by decide : R32 6)⟩, c2⟩⟩ ?_
    by_cases c4 : x0 < 8
    · rw [if_pos c4] at H
      refine pt109 (s' := (26, [some (vi x0), some (vi x1)], [vi x1], (Wd S L F G h))) (by decide) [1, 0] rfl ⟨trivial, ⟨⟨g3, (by decide : R32 8)⟩, c4⟩⟩ ?_
      exact wp.fin (v := some (vi x1)) (by decide) am_m109 rfl ⟨_, rfl, Or.inl rfl, rfl⟩ H
    · rw [if_neg c4] at H
      obtain ⟨g5, H⟩ := H
      refine pt109 (s' := (2, [some (vi (x0 / 8)), some (vi (x1 + 1))], [], (Wd S L F G h))) (by decide) [0, 0, 0, 0, 0, 0, 0] rfl ⟨⟨trivial, ⟨⟨g3, (by decide : R32 8)⟩, c4⟩⟩, ⟨g5.1, g5.2, (by decide : (0 : Int) < 8), (by decide : (8 : Int) ≤ 2147483647)⟩⟩ ?_
      exact wp.weak (a := [some (vi (x0 / 8)), some (vi (x1 + 1))]) ⟨rfl, rfl, trivial⟩ H
set_option maxRecDepth 100000 in
set_option maxHeartbeats 4000000 in
theorem T110_0 {S L : Nat} {F G : Nat → Nat → Int} {h : Nat → Nat → Option Nat} (hh : RfH h) {a0 : Int}  {Q : Option V2 → W2 → Prop}
    (H : C110_2 a0 0 (Wd S L F G h) Q) : C110_0 a0 (Wd S L F G h) Q := by
  refine pt110 (s' := (2, [some (vi a0), some (vi 0)], [], (Wd S L F G h))) (by decide) [0, 0] rfl trivial ?_
  exact wp.weak (a := [some (vi a0), some (vi 0)]) ⟨rfl, rfl, trivial⟩ H
set_option maxRecDepth 100000 in
set_option maxHeartbeats 4000000 in
theorem T110_2 {S L : Nat} {F G : Nat → Nat → Int} {h : Nat → Nat → Option Nat} (hh : RfH h) {x0 : Int} {x1 : Int}  {Q : Option V2 → W2 → Prop}
    (H : (R32 x1 ∧
 (if 8 ≤ x1 then
  Q (some (vi (-4))) (Wd S L F G h)
 else
  (((0 : Int) ≤ ((Int32.ofInt x0 >>> (Int32.ofInt x1 &&& 31)).toInt) ∧ ((Int32.ofInt x0 >>> (Int32.ofInt x1 &&& 31)).toInt) ≤ 2147483647) ∧
  R32 (((Int32.ofInt x0 >>> (Int32.ofInt x1 &&& 31)).toInt) % 2) ∧
  (if (((Int32.ofInt x0 >>> (Int32.ofInt x1 &&& 31)).toInt) % 2) = 0 then
   C110_2 x0 (x1 + 1) (Wd S L F G h) Q
  else
   Q (some (vi x1)) (Wd S L F G h)))))) : C110_2 x0 x1 (Wd S L F G h) Q := by
  obtain ⟨g1, H⟩ := H
  refine pt110 (s' := (5, [some (vi x0), some (vi x1)], [vi 8, vi x1], (Wd S L F G h))) (by decide) [0, 0] rfl trivial ?_
  by_cases c2 : 8 ≤ x1
  · rw [if_pos c2] at H
    refine pt110 (s' := (26, [some (vi x0), some (vi x1)], [vi (-4)], (Wd S L F G h))) (by decide) [1, 0] rfl ⟨trivial, ⟨⟨g1, (by decide : R32 8)⟩, c2⟩⟩ ?_
    exact wp.fin (v := some (vi (-4))) (by decide) am_m110 rfl ⟨_, rfl, Or.inl rfl, rfl⟩ H
  · rw [if_neg c2] at H
    obtain ⟨g3, H⟩ := H
    obtain ⟨g4, H⟩ := H
    refine pt110 (s' := (13, [some (vi x0), some (vi x1)], [vi (((Int32.ofInt x0 >>> (Int32.ofInt x1 &&& 31)).toInt) % 2)], (Wd S L F G h))) (by decide) [0, 0, 0, 0, 0, 0] rfl ⟨⟨trivial, ⟨⟨g1, (by decide : R32 8)⟩, c2⟩⟩, ⟨g3.1, g3.2, (by decide : (0 : Int) < 2), (by decide : (2 : Int) ≤ 2147483647)⟩⟩ ?_
    by_cases c5 : (((Int32.ofInt x0 >>> (Int32.ofInt x1 &&& 31)).toInt) % 2) = 0
    · rw [if_pos c5] at H
      refine pt110 (s' := (2, [some (vi x0), some (vi (x1 + 1))], [], (Wd S L F G h))) (by decide) [1, 0, 0] rfl ⟨trivial, ⟨g4, c5⟩⟩ ?_
      exact wp.weak (a := [some (vi x0), some (vi (x1 + 1))]) ⟨rfl, rfl, trivial⟩ H
    · rw [if_neg c5] at H
      refine pt110 (s' := (17, [some (vi x0), some (vi x1)], [vi x1], (Wd S L F G h))) (by decide) [0, 0] rfl ⟨trivial, ⟨g4, c5⟩⟩ ?_
      exact wp.fin (v := some (vi x1)) (by decide) am_m110 rfl ⟨_, rfl, Or.inl rfl, rfl⟩ H
set_option maxRecDepth 100000 in
set_option maxHeartbeats 4000000 in
theorem T111_0 {S L : Nat} {F G : Nat → Nat → Int} {h : Nat → Nat → Option Nat} (hh : RfH h) {a0 : Int}  {Q : Option V2 → W2 → Prop}
    (H : Q (some (vi ((Int32.ofInt ((((Int32.ofInt ((((Int32.ofInt (a0 - ((Int32.ofInt (((Int32.ofInt a0).toUInt32 >>> ((Int32.ofInt 1).toUInt32 &&& Int32.toUInt32 31)).toInt32.toInt) &&& Int32.ofInt 1431655765).toInt)) &&& Int32.ofInt 858993459).toInt) + ((Int32.ofInt (((Int32.ofInt (a0 - ((Int32.ofInt (((Int32.ofInt a0).toUInt32 >>> ((Int32.ofInt 1).toUInt32 &&& Int32.toUInt32 31)).toInt32.toInt) &&& Int32.ofInt 1431655765).toInt))).toUInt32 >>> ((Int32.ofInt 2).toUInt32 &&& Int32.toUInt32 31)).toInt32.toInt) &&& Int32.ofInt 858993459).toInt)) + (((Int32.ofInt (((Int32.ofInt (a0 - ((Int32.ofInt (((Int32.ofInt a0).toUInt32 >>> ((Int32.ofInt 1).toUInt32 &&& Int32.toUInt32 31)).toInt32.toInt) &&& Int32.ofInt 1431655765).toInt)) &&& Int32.ofInt 858993459).toInt) + ((Int32.ofInt (((Int32.ofInt (a0 - ((Int32.ofInt (((Int32.ofInt a0).toUInt32 >>> ((Int32.ofInt 1).toUInt32 &&& Int32.toUInt32 31)).toInt32.toInt) &&& Int32.ofInt 1431655765).toInt))).toUInt32 >>> ((Int32.ofInt 2).toUInt32 &&& Int32.toUInt32 31)).toInt32.toInt) &&& Int32.ofInt 858993459).toInt))).toUInt32 >>> ((Int32.ofInt 4).toUInt32 &&& Int32.toUInt32 31)).toInt32.toInt)) &&& Int32.ofInt 252645135).toInt) + (((Int32.ofInt ((Int32.ofInt ((((Int32.ofInt (a0 - ((Int32.ofInt (((Int32.ofInt a0).toUInt32 >>> ((Int32.ofInt 1).toUInt32 &&& Int32.toUInt32 31)).toInt32.toInt) &&& Int32.ofInt 1431655765).toInt)) &&& Int32.ofInt 858993459).toInt) + ((Int32.ofInt (((Int32.ofInt (a0 - ((Int32.ofInt (((Int32.ofInt a0).toUInt32 >>> ((Int32.ofInt 1).toUInt32 &&& Int32.toUInt32 31)).toInt32.toInt) &&& Int32.ofInt 1431655765).toInt))).toUInt32 >>> ((Int32.ofInt 2).toUInt32 &&& Int32.toUInt32 31)).toInt32.toInt) &&& Int32.ofInt 858993459).toInt)) + (((Int32.ofInt (((Int32.ofInt (a0 - ((Int32.ofInt (((Int32.ofInt a0).toUInt32 >>> ((Int32.ofInt 1).toUInt32 &&& Int32.toUInt32 31)).toInt32.toInt) &&& Int32.ofInt 1431655765).toInt)) &&& Int32.ofInt 858993459).toInt) + ((Int32.ofInt (((Int32.ofInt (a0 - ((Int32.ofInt (((Int32.ofInt a0).toUInt32 >>> ((Int32.ofInt 1).toUInt32 &&& Int32.toUInt32 31)).toInt32.toInt) &&& Int32.ofInt 1431655765).toInt))).toUInt32 >>> ((Int32.ofInt 2).toUInt32 &&& Int32.toUInt32 31)).toInt32.toInt) &&& Int32.ofInt 858993459).toInt))).toUInt32 >>> ((Int32.ofInt 4).toUInt32 &&& Int32.toUInt32 31)).toInt32.toInt)) &&& Int32.ofInt 252645135).toInt)).toUInt32 >>> ((Int32.ofInt 8).toUInt32 &&& Int32.toUInt32 31)).toInt32.toInt)) + (((Int32.ofInt (((Int32.ofInt ((((Int32.ofInt (a0 - ((Int32.ofInt (((Int32.ofInt a0).toUInt32 >>> ((Int32.ofInt 1).toUInt32 &&& Int32.toUInt32 31)).toInt32.toInt) &&& Int32.ofInt 1431655765).toInt)) &&& Int32.ofInt 858993459).toInt) + ((Int32.ofInt (((Int32.ofInt (a0 - ((Int32.ofInt (((Int32.ofInt a0).toUInt32 >>> ((Int32.ofInt 1).toUInt32 &&& Int32.toUInt32 31)).toInt32.toInt) &&& Int32.ofInt 1431655765).toInt))).toUInt32 >>> ((Int32.ofInt 2).toUInt32 &&& Int32.toUInt32 31)).toInt32.toInt) &&& Int32.ofInt 858993459).toInt)) + (((Int32.ofInt (((Int32.ofInt (a0 - ((Int32.ofInt (((Int32.ofInt a0).toUInt32 >>> ((Int32.ofInt 1).toUInt32 &&& Int32.toUInt32 31)).toInt32.toInt) &&& Int32.ofInt 1431655765).toInt)) &&& Int32.ofInt 858993459).toInt) + ((Int32.ofInt (((Int32.ofInt (a0 - ((Int32.ofInt (((Int32.ofInt a0).toUInt32 >>> ((Int32.ofInt 1).toUInt32 &&& Int32.toUInt32 31)).toInt32.toInt) &&& Int32.ofInt 1431655765).toInt))).toUInt32 >>> ((Int32.ofInt 2).toUInt32 &&& Int32.toUInt32 31)).toInt32.toInt) &&& Int32.ofInt 858993459).toInt))).toUInt32 >>> ((Int32.ofInt 4).toUInt32 &&& Int32.toUInt32 31)).toInt32.toInt)) &&& Int32.ofInt 252645135).toInt) + (((Int32.ofInt ((Int32.ofInt ((((Int32.ofInt (a0 - ((Int32.ofInt (((Int32.ofInt a0).toUInt32 >>> ((Int32.ofInt 1).toUInt32 &&& Int32.toUInt32 31)).toInt32.toInt) &&& Int32.ofInt 1431655765).toInt)) &&& Int32.ofInt 858993459).toInt) + ((Int32.ofInt (((Int32.ofInt (a0 - ((Int32.ofInt (((Int32.ofInt a0).toUInt32 >>> ((Int32.ofInt 1).toUInt32 &&& Int32.toUInt32 31)).toInt32.toInt) &&& Int32.ofInt 1431655765).toInt))).toUInt32 >>> ((Int32.ofInt 2).toUInt32 &&& Int32.toUInt32 31)).toInt32.toInt) &&& Int32.ofInt 858993459).toInt)) + (((Int32.ofInt (((Int32.ofInt (a0 - ((Int32.ofInt (((Int32.ofInt a0).toUInt32 >>> ((Int32.ofInt 1).toUInt32 &&& Int32.toUInt32 31)).toInt32.toInt) &&& Int32.ofInt 1431655765).toInt)) &&& Int32.ofInt 858993459).toInt) + ((Int32.ofInt (((Int32.ofInt (a0 - ((Int32.ofInt (((Int32.ofInt a0).toUInt32 >>> ((Int32.ofInt 1).toUInt32 &&& Int32.toUInt32 31)).toInt32.toInt) &&& Int32.ofInt 1431655765).toInt))).toUInt32 >>> ((Int32.ofInt 2).toUInt32 &&& Int32.toUInt32 31)).toInt32.toInt) &&& Int32.ofInt 858993459).toInt))).toUInt32 >>> ((Int32.ofInt 4).toUInt32 &&& Int32.toUInt32 31)).toInt32.toInt)) &&& Int32.ofInt 252645135).toInt)).toUInt32 >>> ((Int32.ofInt 8).toUInt32 &&& Int32.toUInt32 31)).toInt32.toInt))).toUInt32 >>> ((Int32.ofInt 16).toUInt32 &&& Int32.toUInt32 31)).toInt32.toInt)) &&& Int32.ofInt 63).toInt))) (Wd S L F G h)) : C111_0 a0 (Wd S L F G h) Q := by
  refine pt111 (s' := (52, [some (vi ((((Int32.ofInt ((((Int32.ofInt (a0 - ((Int32.ofInt (((Int32.ofInt a0).toUInt32 >>> ((Int32.ofInt 1).toUInt32 &&& Int32.toUInt32 31)).toInt32.toInt) &&& Int32.ofInt 1431655765).toInt)) &&& Int32.ofInt 858993459).toInt) + ((Int32.ofInt (((Int32.ofInt (a0 - ((Int32.ofInt (((Int32.ofInt a0).toUInt32 >>> ((Int32.ofInt 1).toUInt32 &&& Int32.toUInt32 31)).toInt32.toInt) &&& Int32.ofInt 1431655765).toInt))).toUInt32 >>> ((Int32.ofInt 2).toUInt32 &&& Int32.toUInt32 31)).toInt32.toInt) &&& Int32.ofInt 858993459).toInt)) + (((Int32.ofInt (((Int32.ofInt (a0 - ((Int32.ofInt (((Int32.ofInt a0).toUInt32 >>> ((Int32.ofInt 1).toUInt32 &&& Int32.toUInt32 31)).toInt32.toInt) &&& Int32.ofInt 1431655765).toInt)) &&& Int32.ofInt 858993459).toInt) + ((Int32.ofInt (((Int32.ofInt (a0 - ((Int32.ofInt (((Int32.ofInt a0).toUInt32 >>> ((Int32.ofInt 1).toUInt32 &&& Int32.toUInt32 31)).toInt32.toInt) &&& Int32.ofInt 1431655765).toInt))).toUInt32 >>> ((Int32.ofInt 2).toUInt32 &&& Int32.toUInt32 31)).toInt32.toInt) &&& Int32.ofInt 858993459).toInt))).toUInt32 >>> ((Int32.ofInt 4).toUInt32 &&& Int32.toUInt32 31)).toInt32.toInt)) &&& Int32.ofInt 252645135).toInt) + (((Int32.ofInt ((Int32.ofInt ((((Int32.ofInt (a0 - ((Int32.ofInt (((Int32.ofInt a0).toUInt32 >>> ((Int32.ofInt 1).toUInt32 &&& Int32.toUInt32 31)).toInt32.toInt) &&& Int32.ofInt 1431655765).toInt)) &&& Int32.ofInt 858993459).toInt) + ((Int32.ofInt (((Int32.ofInt (a0 - ((Int32.ofInt (((Int32.ofInt a0).toUInt32 >>> ((Int32.ofInt 1).toUInt32 &&& Int32.toUInt32 31)).toInt32.toInt) &&& Int32.ofInt 1431655765).toInt))).toUInt32 >>> ((Int32.ofInt 2).toUInt32 &&& Int32.toUInt32 31)).toInt32.toInt) &&& Int32.ofInt 858993459).toInt)) + (((Int32.ofInt (((Int32.ofInt (a0 - ((Int32.ofInt (((Int32.ofInt a0).toUInt32 >>> ((Int32.ofInt 1).toUInt32 &&& Int32.toUInt32 31)).toInt32.toInt) &&& Int32.ofInt 1431655765).toInt)) &&& Int32.ofInt 858993459).toInt) + ((Int32.ofInt (((Int32.ofInt (a0 - ((Int32.ofInt (((Int32.ofInt a0).toUInt32 >>> ((Int32.ofInt 1).toUInt32 &&& Int32.toUInt32 31)).toInt32.toInt) &&& Int32.ofInt 1431655765).toInt))).toUInt32 >>> ((Int32.ofInt 2).toUInt32 &&& Int32.toUInt32 31)).toInt32.toInt) &&& Int32.ofInt 858993459).toInt))).toUInt32 >>> ((Int32.ofInt 4).toUInt32 &&& Int32.toUInt32 31)).toInt32.toInt)) &&& Int32.ofInt 252645135).toInt)).toUInt32 >>> ((Int32.ofInt 8).toUInt32 &&& Int32.toUInt32 31)).toInt32.toInt)) + (((Int32.ofInt (((Int32.ofInt ((((Int32.ofInt (a0 - ((Int32.ofInt (((Int32.ofInt a0).toUInt32 >>> ((Int32.ofInt 1).toUInt32 &&& Int32.toUInt32 31)).toInt32.toInt) &&& Int32.ofInt 1431655765).toInt)) &&& Int32.ofInt 858993459).toInt) + ((Int32.ofInt (((Int32.ofInt (a0 - ((Int32.ofInt (((Int32.ofInt a0).toUInt32 >>> ((Int32.ofInt 1).toUInt32 &&& Int32.toUInt32 31)).toInt32.toInt) &&& Int32.ofInt 1431655765).toInt))).toUInt32 >>> ((Int32.ofInt 2).toUInt32 &&& Int32.toUInt32 31)).toInt32.toInt) &&& Int32.ofInt 858993459).toInt)) + (((Int32.ofInt (((Int32.ofInt (a0 - ((Int32.ofInt (((Int32.ofInt a0).toUInt32 >>> ((Int32.ofInt 1).toUInt32 &&& Int32.toUInt32 31)).toInt32.toInt) &&& Int32.ofInt 1431655765).toInt)) &&& Int32.ofInt 858993459).toInt) + ((Int32.ofInt (((Int32.ofInt (a0 - ((Int32.ofInt (((Int32.ofInt a0).toUInt32 >>> ((Int32.ofInt 1).toUInt32 &&& Int32.toUInt32 31)).toInt32.toInt) &&& Int32.ofInt 1431655765).toInt))).toUInt32 >>> ((Int32.ofInt 2).toUInt32 &&& Int32.toUInt32 31)).toInt32.toInt) &&& Int32.ofInt 858993459).toInt))).toUInt32 >>> ((Int32.ofInt 4).toUInt32 &&& Int32.toUInt32 31)).toInt32.toInt)) &&& Int32.ofInt 252645135).toInt) + (((Int32.ofInt ((Int32.ofInt ((((Int32.ofInt (a0 - ((Int32.ofInt (((Int32.ofInt a0).toUInt32 >>> ((Int32.ofInt 1).toUInt32 &&& Int32.toUInt32 31)).toInt32.toInt) &&& Int32.ofInt 1431655765).toInt)) &&& Int32.ofInt 858993459).toInt) + ((Int32.ofInt (((Int32.ofInt (a0 - ((Int32.ofInt (((Int32.ofInt a0).toUInt32 >>> ((Int32.ofInt 1).toUInt32 &&& Int32.toUInt32 31)).toInt32.toInt) &&& Int32.ofInt 1431655765).toInt))).toUInt32 >>> ((Int32.ofInt 2).toUInt32 &&& Int32.toUInt32 31)).toInt32.toInt) &&& Int32.ofInt 858993459).toInt)) + (((Int32.ofInt (((Int32.ofInt (a0 - ((Int32.ofInt (((Int32.ofInt a0).toUInt32 >>> ((Int32.ofInt 1).toUInt32 &&& Int32.toUInt32 31)).toInt32.toInt) &&& Int32.ofInt 1431655765).toInt)) &&& Int32.ofInt 858993459).toInt) + ((Int32.ofInt (((Int32.ofInt (a0 - ((Int32.ofInt (((Int32.ofInt a0).toUInt32 >>> ((Int32.ofInt 1).toUInt32 &&& Int32.toUInt32 31)).toInt32.toInt) &&& Int32.ofInt 1431655765).toInt))).toUInt32 >>> ((Int32.ofInt 2).toUInt32 &&& Int32.toUInt32 31)).toInt32.toInt) &&& Int32.ofInt 858993459).toInt))).toUInt32 >>> ((Int32.ofInt 4).toUInt32 &&& Int32.toUInt32 31)).toInt32.toInt)) &&& Int32.ofInt 252645135).toInt)).toUInt32 >>> ((Int32.ofInt 8).toUInt32 &&& Int32.toUInt32 31)).toInt32.toInt))).toUInt32 >>> ((Int32.ofInt 16).toUInt32 &&& Int32.toUInt32 31)).toInt32.toInt)))], [vi ((Int32.ofInt ((((Int32.ofInt ((((Int32.ofInt (a0 - ((Int32.ofInt (((Int32.ofInt a0).toUInt32 >>> ((Int32.ofInt 1).toUInt32 &&& Int32.toUInt32 31)).toInt32.toInt) &&& Int32.ofInt 1431655765).toInt)) &&& Int32.ofInt 858993459).toInt) + ((Int32.ofInt (((Int32.ofInt (a0 - ((Int32.ofInt (((Int32.ofInt a0).toUInt32 >>> ((Int32.ofInt 1).toUInt32 &&& Int32.toUInt32 31)).toInt32.toInt) &&& Int32.ofInt 1431655765).toInt))).toUInt32 >>> ((Int32.ofInt 2).toUInt32 &&& Int32.toUInt32 31)).toInt32.toInt) &&& Int32.ofInt 858993459).toInt)) + (((Int32.ofInt (((Int32.ofInt (a0 - ((Int32.ofInt (((Int32.ofInt a0).toUInt32 >>> ((Int32.ofInt 1).toUInt32 &&& Int32.toUInt32 31)).toInt32.toInt) &&& Int32.ofInt 1431655765).toInt)) &&& Int32.ofInt 858993459).toInt) + ((Int32.ofInt (((Int32.ofInt (a0 - ((Int32.ofInt (((Int32.ofInt a0).toUInt32 >>> ((Int32.ofInt 1).toUInt32 &&& Int32.toUInt32 31)).toInt32.toInt) &&& Int32.ofInt 1431655765).toInt))).toUInt32 >>> ((Int32.ofInt 2).toUInt32 &&& Int32.toUInt32 31)).toInt32.toInt) &&& Int32.ofInt 858993459).toInt))).toUInt32 >>> ((Int32.ofInt 4).toUInt32 &&& Int32.toUInt32 31)).toInt32.toInt)) &&& Int32.ofInt 252645135).toInt) + (((Int32.ofInt ((Int32.ofInt ((((Int32.ofInt (a0 - ((Int32.ofInt (((Int32.ofInt a0).toUInt32 >>> ((Int32.ofInt 1).toUInt32 &&& Int32.toUInt32 31)).toInt32.toInt) &&& Int32.ofInt 1431655765).toInt)) &&& Int32.ofInt 858993459).toInt) + ((Int32.ofInt (((Int32.ofInt (a0 - ((Int32.ofInt (((Int32.ofInt a0).toUInt32 >>> ((Int32.ofInt 1).toUInt32 &&& Int32.toUInt32 31)).toInt32.toInt) &&& Int32.ofInt 1431655765).toInt))).toUInt32 >>> ((Int32.ofInt 2).toUInt32 &&& Int32.toUInt32 31)).toInt32.toInt) &&& Int32.ofInt 858993459).toInt)) + (((Int32.ofInt (((Int32.ofInt (a0 - ((Int32.ofInt (((Int32.ofInt a0).toUInt32 >>> ((Int32.ofInt 1).toUInt32 &&& Int32.toUInt32 31)).toInt32.toInt) &&& Int32.ofInt 1431655765).toInt)) &&& Int32.ofInt 858993459).toInt) + ((Int32.ofInt (((Int32.ofInt (a0 - ((Int32.ofInt (((Int32.ofInt a0).toUInt32 >>> ((Int32.ofInt 1).toUInt32 &&& Int32.toUInt32 31)).toInt32.toInt) &&& Int32.ofInt 1431655765).toInt))).toUInt32 >>> ((Int32.ofInt 2).toUInt32 &&& Int32.toUInt32 31)).toInt32.toInt) &&& Int32.ofInt 858993459).toInt))).toUInt32 >>> ((Int32.ofInt 4).toUInt32 &&& Int32.toUInt32 31)).toInt32.toInt)) &&& Int32.ofInt 252645135).toInt)).toUInt32 >>> ((Int32.ofInt 8).toUInt32 &&& Int32.toUInt32 31)).toInt32.toInt)) + (((Int32.ofInt (((Int32.ofInt ((((Int32.ofInt (a0 - ((Int32.ofInt (((Int32.ofInt a0).toUInt32 >>> ((Int32.ofInt 1).toUInt32 &&& Int32.toUInt32 31)).toInt32.toInt) &&& Int32.ofInt 1431655765).toInt)) &&& Int32.ofInt 858993459).toInt) + ((Int32.ofInt (((Int32.ofInt (a0 - ((Int32.ofInt (((Int32.ofInt a0).toUInt32 >>> ((Int32.ofInt 1).toUInt32 &&& Int32.toUInt32 31)).toInt32.toInt) &&& Int32.ofInt 1431655765).toInt))).toUInt32 >>> ((Int32.ofInt 2).toUInt32 &&& Int32.toUInt32 31)).toInt32.toInt) &&& Int32.ofInt 858993459).toInt)) + (((Int32.ofInt (((Int32.ofInt (a0 - ((Int32.ofInt (((Int32.ofInt a0).toUInt32 >>> ((Int32.ofInt 1).toUInt32 &&& Int32.toUInt32 31)).toInt32.toInt) &&& Int32.ofInt 1431655765).toInt)) &&& Int32.ofInt 858993459).toInt) + ((Int32.ofInt (((Int32.ofInt (a0 - ((Int32.ofInt (((Int32.ofInt a0).toUInt32 >>> ((Int32.ofInt 1).toUInt32 &&& Int32.toUInt32 31)).toInt32.toInt) &&& Int32.ofInt 1431655765).toInt))).toUInt32 >>> ((Int32.ofInt 2).toUInt32 &&& Int32.toUInt32 31)).toInt32.toInt) &&& Int32.ofInt 858993459).toInt))).toUInt32 >>> ((Int32.ofInt 4).toUInt32 &&& Int32.toUInt32 31)).toInt32.toInt)) &&& Int32.ofInt 252645135).toInt) + (((Int32.ofInt ((Int32.ofInt ((((Int32.ofInt (a0 - ((Int32.ofInt (((Int32.ofInt a0).toUInt32 >>> ((Int32.ofInt 1).toUInt32 &&& Int32.toUInt32 31)).toInt32.toInt) &&& Int32.ofInt 1431655765).toInt)) &&& Int32.ofInt 858993459).toInt) + ((Int32.ofInt (((Int32.ofInt (a0 - ((Int32.ofInt (((Int32.ofInt a0).toUInt32 >>> ((Int32.ofInt 1).toUInt32 &&& Int32.toUInt32 31)).toInt32.toInt) &&& Int32.ofInt 1431655765).toInt))).toUInt32 >>> ((Int32.ofInt 2).toUInt32 &&& Int32.toUInt32 31)).toInt32.toInt) &&& Int32.ofInt 858993459).toInt)) + (((Int32.ofInt (((Int32.ofInt (a0 - ((Int32.ofInt (((Int32.ofInt a0).toUInt32 >>> ((Int32.ofInt 1).toUInt32 &&& Int32.toUInt32 31)).toInt32.toInt) &&& Int32.ofInt 1431655765).toInt)) &&& Int32.ofInt 858993459).toInt) + ((Int32.ofInt (((Int32.ofInt (a0 - ((Int32.ofInt (((Int32.ofInt a0).toUInt32 >>> ((Int32.ofInt 1).toUInt32 &&& Int32.toUInt32 31)).toInt32.toInt) &&& Int32.ofInt 1431655765).toInt))).toUInt32 >>> ((Int32.ofInt 2).toUInt32 &&& Int32.toUInt32 31)).toInt32.toInt) &&& Int32.ofInt 858993459).toInt))).toUInt32 >>> ((Int32.ofInt 4).toUInt32 &&& Int32.toUInt32 31)).toInt32.toInt)) &&& Int32.ofInt 252645135).toInt)).toUInt32 >>> ((Int32.ofInt 8).toUInt32 &&& Int32.toUInt32 31)).toInt32.toInt))).toUInt32 >>> ((Int32.ofInt 16).toUInt32 &&& Int32.toUInt32 31)).toInt32.toInt)) &&& Int32.ofInt 63).toInt)], (Wd S L F G h))) (by decide) [0, 0, 0, 0, 0, 0, 0, 0, 0, 0, 0, 0, 0, 0, 0, 0, 0, 0, 0, 0, 0, 0, 0, 0, 0, 0, 0, 0, 0, 0, 0, 0, 0, 0, 0, 0, 0, 0, 0, 0, 0] rfl trivial ?_
  exact wp.fin (v := some (vi ((Int32.ofInt ((((Int32.ofInt ((((Int32.ofInt (a0 - ((Int32.ofInt (((Int32.ofInt a0).toUInt32 >>> ((Int32.ofInt 1).toUInt32 &&& Int32.toUInt32 31)).toInt32.toInt) &&& Int32.ofInt 1431655765).toInt)) &&& Int32.ofInt 858993459).toInt) + ((Int32.ofInt (((Int32.ofInt (a0 - ((Int32.ofInt (((Int32.ofInt a0).toUInt32 >>> ((Int32.ofInt 1).toUInt32 &&& Int32.toUInt32 31)).toInt32.toInt) &&& Int32.ofInt 1431655765).toInt))).toUInt32 >>> ((Int32.ofInt 2).toUInt32 &&& Int32.toUInt32 31)).toInt32.toInt) &&& Int32.ofInt 858993459).toInt)) + (((Int32.ofInt (((Int32.ofInt (a0 - ((Int32.ofInt (((Int32.ofInt a0).toUInt32 >>> ((Int32.ofInt 1).toUInt32 &&& Int32.toUInt32 31)).toInt32.toInt) &&& Int32.ofInt 1431655765).toInt)) &&& Int32.ofInt 858993459).toInt) + ((Int32.ofInt (((Int32.ofInt (a0 - ((Int32.ofInt (((Int32.ofInt a0).toUInt32 >>> ((Int32.ofInt 1).toUInt32 &&& Int32.toUInt32 31)).toInt32.toInt) &&& Int32.ofInt 1431655765).toInt))).toUInt32 >>> ((Int32.ofInt 2).toUInt32 &&& Int32.toUInt32 31)).toInt32.toInt) &&& Int32.ofInt 858993459).toInt))).toUInt32 >>> ((Int32.ofInt 4).toUInt32 &&& Int32.toUInt32 31)).toInt32.toInt)) &&& Int32.ofInt 252645135).toInt) + (((Int32.ofInt ((Int32.ofInt ((((Int32.ofInt (a0 - ((Int32.ofInt (((Int32.ofInt a0).toUInt32 >>> ((Int32.ofInt 1).toUInt32 &&& Int32.toUInt32 31)).toInt32.toInt) &&& Int32.ofInt 1431655765).toInt)) &&& Int32.ofInt 858993459).toInt) + ((Int32.ofInt (((Int32.ofInt (a0 - ((Int32.ofInt (((Int32.ofInt a0).toUInt32 >>> ((Int32.ofInt 1).toUInt32 &&& Int32.toUInt32 31)).toInt32.toInt) &&& Int32.ofInt 1431655765).toInt))).toUInt32 >>> ((Int32.ofInt 2).toUInt32 &&& Int32.toUInt32 31)).toInt32.toInt) &&& Int32.ofInt 858993459).toInt)) + (((Int32.ofInt (((Int32.ofInt (a0 - ((Int32.ofInt (((Int32.ofInt a0).toUInt32 >>> ((Int32.ofInt 1).toUInt32 &&& Int32.toUInt32 31)).toInt32.toInt) &&& Int32.ofInt 1431655765).toInt)) &&& Int32.ofInt 858993459).toInt) + ((Int32.ofInt (((Int32.ofInt (a0 - ((Int32.ofInt (((Int32.ofInt a0).toUInt32 >>> ((Int32.ofInt 1).toUInt32 &&& Int32.toUInt32 31)).toInt32.toInt) &&& Int32.ofInt 1431655765).toInt))).toUInt32 >>> ((Int32.ofInt 2).toUInt32 &&& Int32.toUInt32 31)).toInt32.toInt) &&& Int32.ofInt 858993459).toInt))).toUInt32 >>> ((Int32.ofInt 4).toUInt32 &&& Int32.toUInt32 31)).toInt32.toInt)) &&& Int32.ofInt 252645135).toInt)).toUInt32 >>> ((Int32.ofInt 8).toUInt32 &&& Int32.toUInt32 31)).toInt32.toInt)) + (((Int32.ofInt (((Int32.ofInt ((((Int32.ofInt (a0 - ((Int32.ofInt (((Int32.ofInt a0).toUInt32 >>> ((Int32.ofInt 1).toUInt32 &&& Int32.toUInt32 31)).toInt32.toInt) &&& Int32.ofInt 1431655765).toInt)) &&& Int32.ofInt 858993459).toInt) + ((Int32.ofInt (((Int32.ofInt (a0 - ((Int32.ofInt (((Int32.ofInt a0).toUInt32 >>> ((Int32.ofInt 1).toUInt32 &&& Int32.toUInt32 31)).toInt32.toInt) &&& Int32.ofInt 1431655765).toInt))).toUInt32 >>> ((Int32.ofInt 2).toUInt32 &&& Int32.toUInt32 31)).toInt32.toInt) &&& Int32.ofInt 858993459).toInt)) + (((Int32.ofInt (((Int32.ofInt (a0 - ((Int32.ofInt (((Int32.ofInt a0).toUInt32 >>> ((Int32.ofInt 1).toUInt32 &&& Int32.toUInt32 31)).toInt32.toInt) &&& Int32.ofInt 1431655765).toInt)) &&& Int32.ofInt 858993459).toInt) + ((Int32.ofInt (((Int32.ofInt (a0 - ((Int32.ofInt (((Int32.ofInt a0).toUInt32 >>> ((Int32.ofInt 1).toUInt32 &&& Int32.toUInt32 31)).toInt32.toInt) &&& Int32.ofInt 1431655765).toInt))).toUInt32 >>> ((Int32.ofInt 2).toUInt32 &&& Int32.toUInt32 31)).toInt32.toInt) &&& Int32.ofInt 858993459).toInt))).toUInt32 >>> ((Int32.ofInt 4).toUInt32 &&& Int32.toUInt32 31)).toInt32.toInt)) &&& Int32.ofInt 252645135).toInt) + (((Int32.ofInt ((Int32.ofInt ((((Int32.ofInt (a0 - ((Int32.ofInt (((Int32.ofInt a0).toUInt32 >>> ((Int32.ofInt 1).toUInt32 &&& Int32.toUInt32 31)).toInt32.toInt) &&& Int32.ofInt 1431655765).toInt)) &&& Int32.ofInt 858993459).toInt) + ((Int32.ofInt (((Int32.ofInt (a0 - ((Int32.ofInt (((Int32.ofInt a0).toUInt32 >>> ((Int32.ofInt 1).toUInt32 &&& Int32.toUInt32 31)).toInt32.toInt) &&& Int32.ofInt 1431655765).toInt))).toUInt32 >>> ((Int32.ofInt 2).toUInt32 &&& Int32.toUInt32 31)).toInt32.toInt) &&& Int32.ofInt 858993459).toInt)) + (((Int32.ofInt (((Int32.ofInt (a0 - ((Int32.ofInt (((Int32.ofInt a0).toUInt32 >>> ((Int32.ofInt 1).toUInt32 &&& Int32.toUInt32 31)).toInt32.toInt) &&& Int32.ofInt 1431655765).toInt)) &&& Int32.ofInt 858993459).toInt) + ((Int32.ofInt (((Int32.ofInt (a0 - ((Int32.ofInt (((Int32.ofInt a0).toUInt32 >>> ((Int32.ofInt 1).toUInt32 &&& Int32.toUInt32 31)).toInt32.toInt) &&& Int32.ofInt 1431655765).toInt))).toUInt32 >>> ((Int32.ofInt 2).toUInt32 &&& Int32.toUInt32 31)).toInt32.toInt) &&& Int32.ofInt 858993459).toInt))).toUInt32 >>> ((Int32.ofInt 4).toUInt32 &&& Int32.toUInt32 31)).toInt32.toInt)) &&& Int32.ofInt 252645135).toInt)).toUInt32 >>> ((Int32.ofInt 8).toUInt32 &&& Int32.toUInt32 31)).toInt32.toInt))).toUInt32 >>> ((Int32.ofInt 16).toUInt32 &&& Int32.toUInt32 31)).toInt32.toInt)) &&& Int32.ofInt 63).toInt))) (by decide) am_m111 rfl ⟨_, rfl, Or.inl rfl, rfl⟩ H
