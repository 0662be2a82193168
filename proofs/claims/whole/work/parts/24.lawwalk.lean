/-! the law's loop walked, by program -/
abbrev C201_18 (x3 : Int) (w : W2) (Q : Option V2 → W2 → Prop) : Prop := wp 12 201 (18, [some (vr 9999), some (vr 0), some (vr 297), some (vi x3)], [], w) Q
abbrev C201_176 (x3 : Int) (w : W2) (Q : Option V2 → W2 → Prop) : Prop := wp 12 201 (176, [some (vr 9999), some (vr 0), some (vr 297), some (vi x3)], [], w) Q
abbrev C201_219 (x3 : Int) (w : W2) (Q : Option V2 → W2 → Prop) : Prop := wp 12 201 (219, [some (vr 9999), some (vr 0), some (vr 297), some (vi x3)], [], w) Q
abbrev C201_262 (x3 : Int) (w : W2) (Q : Option V2 → W2 → Prop) : Prop := wp 12 201 (262, [some (vr 9999), some (vr 0), some (vr 297), some (vi x3)], [], w) Q
abbrev C201_295 (x3 : Int) (w : W2) (Q : Option V2 → W2 → Prop) : Prop := wp 12 201 (295, [some (vr 9999), some (vr 0), some (vr 297), some (vi x3)], [], w) Q
abbrev C201_318 (x3 : Int) (w : W2) (Q : Option V2 → W2 → Prop) : Prop := wp 12 201 (318, [some (vr 9999), some (vr 0), some (vr 297), some (vi x3)], [], w) Q
abbrev C201_351 (x3 : Int) (w : W2) (Q : Option V2 → W2 → Prop) : Prop := wp 12 201 (351, [some (vr 9999), some (vr 0), some (vr 297), some (vi x3)], [], w) Q
abbrev C201_374 (x3 : Int) (w : W2) (Q : Option V2 → W2 → Prop) : Prop := wp 12 201 (374, [some (vr 9999), some (vr 0), some (vr 297), some (vi x3)], [], w) Q
abbrev C201_407 (x3 : Int) (w : W2) (Q : Option V2 → W2 → Prop) : Prop := wp 12 201 (407, [some (vr 9999), some (vr 0), some (vr 297), some (vi x3)], [], w) Q
abbrev C201_440 (x3 : Int) (w : W2) (Q : Option V2 → W2 → Prop) : Prop := wp 12 201 (440, [some (vr 9999), some (vr 0), some (vr 297), some (vi x3)], [], w) Q
abbrev C201_473 (x3 : Int) (w : W2) (Q : Option V2 → W2 → Prop) : Prop := wp 12 201 (473, [some (vr 9999), some (vr 0), some (vr 297), some (vi x3)], [], w) Q
abbrev C201_496 (x3 : Int) (w : W2) (Q : Option V2 → W2 → Prop) : Prop := wp 12 201 (496, [some (vr 9999), some (vr 0), some (vr 297), some (vi x3)], [], w) Q
abbrev C201_539 (x3 : Int) (w : W2) (Q : Option V2 → W2 → Prop) : Prop := wp 12 201 (539, [some (vr 9999), some (vr 0), some (vr 297), some (vi x3)], [], w) Q
abbrev C201_583 (x3 : Int) (w : W2) (Q : Option V2 → W2 → Prop) : Prop := wp 12 201 (583, [some (vr 9999), some (vr 0), some (vr 297), some (vi x3)], [], w) Q
abbrev C201_617 (x3 : Int) (w : W2) (Q : Option V2 → W2 → Prop) : Prop := wp 12 201 (617, [some (vr 9999), some (vr 0), some (vr 297), some (vi x3)], [], w) Q
abbrev C201_650 (x3 : Int) (w : W2) (Q : Option V2 → W2 → Prop) : Prop := wp 12 201 (650, [some (vr 9999), some (vr 0), some (vr 297), some (vi x3)], [], w) Q
abbrev C201_683 (x3 : Int) (w : W2) (Q : Option V2 → W2 → Prop) : Prop := wp 12 201 (683, [some (vr 9999), some (vr 0), some (vr 297), some (vi x3)], [], w) Q
abbrev C201_706 (x3 : Int) (w : W2) (Q : Option V2 → W2 → Prop) : Prop := wp 12 201 (706, [some (vr 9999), some (vr 0), some (vr 297), some (vi x3)], [], w) Q
abbrev C201_739 (x3 : Int) (w : W2) (Q : Option V2 → W2 → Prop) : Prop := wp 12 201 (739, [some (vr 9999), some (vr 0), some (vr 297), some (vi x3)], [], w) Q
abbrev C201_772 (x3 : Int) (w : W2) (Q : Option V2 → W2 → Prop) : Prop := wp 12 201 (772, [some (vr 9999), some (vr 0), some (vr 297), some (vi x3)], [], w) Q
abbrev C201_795 (x3 : Int) (w : W2) (Q : Option V2 → W2 → Prop) : Prop := wp 12 201 (795, [some (vr 9999), some (vr 0), some (vr 297), some (vi x3)], [], w) Q
abbrev C201_818 (x3 : Int) (w : W2) (Q : Option V2 → W2 → Prop) : Prop := wp 12 201 (818, [some (vr 9999), some (vr 0), some (vr 297), some (vi x3)], [], w) Q
abbrev C201_831 (x3 : Int) (w : W2) (Q : Option V2 → W2 → Prop) : Prop := wp 12 201 (831, [some (vr 9999), some (vr 0), some (vr 297), some (vi x3)], [], w) Q
abbrev C201_854 (x3 : Int) (w : W2) (Q : Option V2 → W2 → Prop) : Prop := wp 12 201 (854, [some (vr 9999), some (vr 0), some (vr 297), some (vi x3)], [], w) Q
abbrev C201_867 (x3 : Int) (w : W2) (Q : Option V2 → W2 → Prop) : Prop := wp 12 201 (867, [some (vr 9999), some (vr 0), some (vr 297), some (vi x3)], [], w) Q
abbrev C201_890 (x3 : Int) (w : W2) (Q : Option V2 → W2 → Prop) : Prop := wp 12 201 (890, [some (vr 9999), some (vr 0), some (vr 297), some (vi x3)], [], w) Q
abbrev C201_903 (x3 : Int) (w : W2) (Q : Option V2 → W2 → Prop) : Prop := wp 12 201 (903, [some (vr 9999), some (vr 0), some (vr 297), some (vi x3)], [], w) Q
abbrev C201_916 (x3 : Int) (w : W2) (Q : Option V2 → W2 → Prop) : Prop := wp 12 201 (916, [some (vr 9999), some (vr 0), some (vr 297), some (vi x3)], [], w) Q
abbrev C201_969 (x3 : Int) (w : W2) (Q : Option V2 → W2 → Prop) : Prop := wp 12 201 (969, [some (vr 9999), some (vr 0), some (vr 297), some (vi x3)], [], w) Q
abbrev C201_1012 (x3 : Int) (w : W2) (Q : Option V2 → W2 → Prop) : Prop := wp 12 201 (1012, [some (vr 9999), some (vr 0), some (vr 297), some (vi x3)], [], w) Q
abbrev C201_1055 (x3 : Int) (w : W2) (Q : Option V2 → W2 → Prop) : Prop := wp 12 201 (1055, [some (vr 9999), some (vr 0), some (vr 297), some (vi x3)], [], w) Q
abbrev C201_1078 (x3 : Int) (w : W2) (Q : Option V2 → W2 → Prop) : Prop := wp 12 201 (1078, [some (vr 9999), some (vr 0), some (vr 297), some (vi x3)], [], w) Q
abbrev C201_1161 (x3 : Int) (w : W2) (Q : Option V2 → W2 → Prop) : Prop := wp 12 201 (1161, [some (vr 9999), some (vr 0), some (vr 297), some (vi x3)], [], w) Q
set_option maxRecDepth 100000 in
set_option maxHeartbeats 4000000 in
theorem T201_18 {S L : Nat} {F G : Nat → Nat → Int} {h : Nat → Nat → Option Nat} (hh : RfH h) {x3 : Int}  {Q : Option V2 → W2 → Prop}
    (H : (R32 x3 ∧
 R32 ((L : Int) - 6) ∧
 (if ((L : Int) - 6) < x3 then
  Q (some (vi 1)) (Wd S L F G h)
 else
  ((0 ≤ x3 ∧ x3 < (L : Int)) ∧
  R32 ((Int32.ofInt (F 9999 x3.toNat) &&& Int32.ofInt 31).toInt) ∧
  (if ((Int32.ofInt (F 9999 x3.toNat) &&& Int32.ofInt 31).toInt) = 0 then
   C201_176 x3 (Wd S L F G h) Q
  else
  (if ((Int32.ofInt (F 9999 x3.toNat) &&& Int32.ofInt 31).toInt) = 1 then
   C201_219 x3 (Wd S L F G h) Q
  else
  (if ((Int32.ofInt (F 9999 x3.toNat) &&& Int32.ofInt 31).toInt) = 2 then
   C201_262 x3 (Wd S L F G h) Q
  else
  (if ((Int32.ofInt (F 9999 x3.toNat) &&& Int32.ofInt 31).toInt) = 3 then
   C201_295 x3 (Wd S L F G h) Q
  else
  (if ((Int32.ofInt (F 9999 x3.toNat) &&& Int32.ofInt 31).toInt) = 4 then
   C201_318 x3 (Wd S L F G h) Q
  else
  (if ((Int32.ofInt (F 9999 x3.toNat) &&& Int32.ofInt 31).toInt) = 5 then
   C201_351 x3 (Wd S L F G h) Q
  else
  (if ((Int32.ofInt (F 9999 x3.toNat) &&& Int32.ofInt 31).toInt) = 6 then
   C201_374 x3 (Wd S L F G h) Q
  else
  (if ((Int32.ofInt (F 9999 x3.toNat) &&& Int32.ofInt 31).toInt) = 7 then
   C201_407 x3 (Wd S L F G h) Q
  else
  (if ((Int32.ofInt (F 9999 x3.toNat) &&& Int32.ofInt 31).toInt) = 8 then
   C201_440 x3 (Wd S L F G h) Q
  else
  (if ((Int32.ofInt (F 9999 x3.toNat) &&& Int32.ofInt 31).toInt) = 9 then
   C201_473 x3 (Wd S L F G h) Q
  else
  (if ((Int32.ofInt (F 9999 x3.toNat) &&& Int32.ofInt 31).toInt) = 10 then
   C201_496 x3 (Wd S L F G h) Q
  else
  (if ((Int32.ofInt (F 9999 x3.toNat) &&& Int32.ofInt 31).toInt) = 11 then
   C201_539 x3 (Wd S L F G h) Q
  else
  (if ((Int32.ofInt (F 9999 x3.toNat) &&& Int32.ofInt 31).toInt) = 12 then
   C201_583 x3 (Wd S L F G h) Q
  else
  (if ((Int32.ofInt (F 9999 x3.toNat) &&& Int32.ofInt 31).toInt) = 13 then
   C201_617 x3 (Wd S L F G h) Q
  else
  (if ((Int32.ofInt (F 9999 x3.toNat) &&& Int32.ofInt 31).toInt) = 14 then
   C201_650 x3 (Wd S L F G h) Q
  else
  (if ((Int32.ofInt (F 9999 x3.toNat) &&& Int32.ofInt 31).toInt) = 15 then
   C201_683 x3 (Wd S L F G h) Q
  else
  (if ((Int32.ofInt (F 9999 x3.toNat) &&& Int32.ofInt 31).toInt) = 16 then
   C201_706 x3 (Wd S L F G h) Q
  else
  (if ((Int32.ofInt (F 9999 x3.toNat) &&& Int32.ofInt 31).toInt) = 17 then
   C201_739 x3 (Wd S L F G h) Q
  else
  (if ((Int32.ofInt (F 9999 x3.toNat) &&& Int32.ofInt 31).toInt) = 18 then
   C201_772 x3 (Wd S L F G h) Q
  else
  (if ((Int32.ofInt (F 9999 x3.toNat) &&& Int32.ofInt 31).toInt) = 19 then
   C201_795 x3 (Wd S L F G h) Q
  else
  (if ((Int32.ofInt (F 9999 x3.toNat) &&& Int32.ofInt 31).toInt) = 20 then
   C201_818 x3 (Wd S L F G h) Q
  else
  (if ((Int32.ofInt (F 9999 x3.toNat) &&& Int32.ofInt 31).toInt) = 21 then
   C201_831 x3 (Wd S L F G h) Q
  else
  (if ((Int32.ofInt (F 9999 x3.toNat) &&& Int32.ofInt 31).toInt) = 22 then
   C201_854 x3 (Wd S L F G h) Q
  else
  (if ((Int32.ofInt (F 9999 x3.toNat) &&& Int32.ofInt 31).toInt) = 23 then
   C201_867 x3 (Wd S L F G h) Q
  else
  (if ((Int32.ofInt (F 9999 x3.toNat) &&& Int32.ofInt 31).toInt) = 24 then
   C201_890 x3 (Wd S L F G h) Q
  else
  (if ((Int32.ofInt (F 9999 x3.toNat) &&& Int32.ofInt 31).toInt) = 25 then
   C201_903 x3 (Wd S L F G h) Q
  else
  (if ((Int32.ofInt (F 9999 x3.toNat) &&& Int32.ofInt 31).toInt) = 26 then
   C201_916 x3 (Wd S L F G h) Q
  else
  (if ((Int32.ofInt (F 9999 x3.toNat) &&& Int32.ofInt 31).toInt) = 27 then
   C201_969 x3 (Wd S L F G h) Q
  else
  (if ((Int32.ofInt (F 9999 x3.toNat) &&& Int32.ofInt 31).toInt) = 28 then
   C201_1012 x3 (Wd S L F G h) Q
  else
  (if ((Int32.ofInt (F 9999 x3.toNat) &&& Int32.ofInt 31).toInt) = 29 then
   C201_1055 x3 (Wd S L F G h) Q
  else
  (if ((Int32.ofInt (F 9999 x3.toNat) &&& Int32.ofInt 31).toInt) = 30 then
   C201_1078 x3 (Wd S L F G h) Q
  else
  (if ((Int32.ofInt (F 9999 x3.toNat) &&& Int32.ofInt 31).toInt) = 31 then
   C201_1161 x3 (Wd S L F G h) Q
  else
  C201_18 (x3 + 6) (Wd S L F G h) Q)))))))))))))))))))))))))))))))))))) : C201_18 x3 (Wd S L F G h) Q := by
  obtain ⟨g1, H⟩ := H
  obtain ⟨g2, H⟩ := H
  refine pt201 (s' := (24, [some (vr 9999), some (vr 0), some (vr 297), some (vi x3)], [vi ((L : Int) - 6), vi x3], (Wd S L F G h))) (by decide) [0, 0, 0, 0, 0] rfl ⟨trivial, rfl⟩ ?_
  by_cases c3 : ((L : Int) - 6) < x3
  · rw [if_pos c3] at H
    refine pt201 (s' := (1231, [some (vr 9999), some (vr 0), some (vr 297), some (vi x3)], [vi 1], (Wd S L F G h))) (by decide) [1, 0] rfl ⟨trivial, ⟨⟨g1, g2⟩, c3⟩⟩ ?_
    exact wp.fin (v := some (vi 1)) (by decide) am_m201 rfl ⟨_, rfl, Or.inr ⟨rfl, Or.inr rfl⟩, rfl⟩ H
  · rw [if_neg c3] at H
    obtain ⟨g4, H⟩ := H
    obtain ⟨g5, H⟩ := H
    refine pt201 (s' := (33, [some (vr 9999), some (vr 0), some (vr 297), some (vi x3)], [vi ((Int32.ofInt (F 9999 x3.toNat) &&& Int32.ofInt 31).toInt)], (Wd S L F G h))) (by decide) [0, 0, 0, 1, 0, 0] rfl ⟨⟨trivial, ⟨⟨g1, g2⟩, c3⟩⟩, ⟨rfl, g1, g4.1, g4.2⟩⟩ ?_
    by_cases c6 : ((Int32.ofInt (F 9999 x3.toNat) &&& Int32.ofInt 31).toInt) = 0
    · rw [if_pos c6] at H
      refine pt201 (s' := (176, [some (vr 9999), some (vr 0), some (vr 297), some (vi x3)], [], (Wd S L F G h))) (by decide) [1] rfl ⟨trivial, ⟨g5, (by omega : ¬ ((Int32.ofInt (F 9999 x3.toNat) &&& Int32.ofInt 31).toInt) < 0), (by omega : ¬ 31 < ((Int32.ofInt (F 9999 x3.toNat) &&& Int32.ofInt 31).toInt)), c6⟩⟩ ?_
      exact wp.weak (a := [some (vr 9999), some (vr 0), some (vr 297), some (vi x3)]) ⟨rfl, rfl, rfl, rfl, trivial⟩ H
    · rw [if_neg c6] at H
      by_cases c7 : ((Int32.ofInt (F 9999 x3.toNat) &&& Int32.ofInt 31).toInt) = 1
      · rw [if_pos c7] at H
        refine pt201 (s' := (219, [some (vr 9999), some (vr 0), some (vr 297), some (vi x3)], [], (Wd S L F G h))) (by decide) [2] rfl ⟨trivial, ⟨g5, (by omega : ¬ ((Int32.ofInt (F 9999 x3.toNat) &&& Int32.ofInt 31).toInt) < 0), (by omega : ¬ 31 < ((Int32.ofInt (F 9999 x3.toNat) &&& Int32.ofInt 31).toInt)), c7⟩⟩ ?_
        exact wp.weak (a := [some (vr 9999), some (vr 0), some (vr 297), some (vi x3)]) ⟨rfl, rfl, rfl, rfl, trivial⟩ H
      · rw [if_neg c7] at H
        by_cases c8 : ((Int32.ofInt (F 9999 x3.toNat) &&& Int32.ofInt 31).toInt) = 2
        · rw [if_pos c8] at H
          refine pt201 (s' := (262, [some (vr 9999), some (vr 0), some (vr 297), some (vi x3)], [], (Wd S L F G h))) (by decide) [3] rfl ⟨trivial, ⟨g5, (by omega : ¬ ((Int32.ofInt (F 9999 x3.toNat) &&& Int32.ofInt 31).toInt) < 0), (by omega : ¬ 31 < ((Int32.ofInt (F 9999 x3.toNat) &&& Int32.ofInt 31).toInt)), c8⟩⟩ ?_
          exact wp.weak (a := [some (vr 9999), some (vr 0), some (vr 297), some (vi x3)]) ⟨rfl, rfl, rfl, rfl, trivial⟩ H
        · rw [if_neg c8] at H
          by_cases c9 : ((Int32.ofInt (F 9999 x3.toNat) &&& Int32.ofInt 31).toInt) = 3
          · rw [if_pos c9] at H
            refine pt201 (s' := (295, [some (vr 9999), some (vr 0), some (vr 297), some (vi x3)], [], (Wd S L F G h))) (by decide) [4] rfl ⟨trivial, ⟨g5, (by omega : ¬ ((Int32.ofInt (F 9999 x3.toNat) &&& Int32.ofInt 31).toInt) < 0), (by omega : ¬ 31 < ((Int32.ofInt (F 9999 x3.toNat) &&& Int32.ofInt 31).toInt)), c9⟩⟩ ?_
            exact wp.weak (a := [some (vr 9999), some (vr 0), some (vr 297), some (vi x3)]) ⟨rfl, rfl, rfl, rfl, trivial⟩ H
          · rw [if_neg c9] at H
            by_cases c10 : ((Int32.ofInt (F 9999 x3.toNat) &&& Int32.ofInt 31).toInt) = 4
            · rw [if_pos c10] at H
              refine pt201 (s' := (318, [some (vr 9999), some (vr 0), some (vr 297), some (vi x3)], [], (Wd S L F G h))) (by decide) [5] rfl ⟨trivial, ⟨g5, (by omega : ¬ ((Int32.ofInt (F 9999 x3.toNat) &&& Int32.ofInt 31).toInt) < 0), (by omega : ¬ 31 < ((Int32.ofInt (F 9999 x3.toNat) &&& Int32.ofInt 31).toInt)), c10⟩⟩ ?_
              exact wp.weak (a := [some (vr 9999), some (vr 0), some (vr 297), some (vi x3)]) ⟨rfl, rfl, rfl, rfl, trivial⟩ H
            · rw [if_neg c10] at H
              by_cases c11 : ((Int32.ofInt (F 9999 x3.toNat) &&& Int32.ofInt 31).toInt) = 5
              · rw [if_pos c11] at H
                refine pt201 (s' := (351, [some (vr 9999), some (vr 0), some (vr 297), some (vi x3)], [], (Wd S L F G h))) (by decide) [6] rfl ⟨trivial, ⟨g5, (by omega : ¬ ((Int32.ofInt (F 9999 x3.toNat) &&& Int32.ofInt 31).toInt) < 0), (by omega : ¬ 31 < ((Int32.ofInt (F 9999 x3.toNat) &&& Int32.ofInt 31).toInt)), c11⟩⟩ ?_
                exact wp.weak (a := [some (vr 9999), some (vr 0), some (vr 297), some (vi x3)]) ⟨rfl, rfl, rfl, rfl, trivial⟩ H
              · rw [if_neg c11] at H
                by_cases c12 : ((Int32.ofInt (F 9999 x3.toNat) &&& Int32.ofInt 31).toInt) = 6
                · rw [if_pos c12] at H
                  refine pt201 (s' := (374, [some (vr 9999), some (vr 0), some (vr 297), some (vi x3)], [], (Wd S L F G h))) (by decide) [7] rfl ⟨trivial, ⟨g5, (by omega : ¬ ((Int32.ofInt (F 9999 x3.toNat) &&& Int32.ofInt 31).toInt) < 0), (by omega : ¬ 31 < ((Int32.ofInt (F 9999 x3.toNat) &&& Int32.ofInt 31).toInt)), c12⟩⟩ ?_
                  exact wp.weak (a := [some (vr 9999), some (vr 0), some (vr 297), some (vi x3)]) ⟨rfl, rfl, rfl, rfl, trivial⟩ H
                · rw [if_neg c12] at H
                  by_cases c13 : ((Int32.ofInt (F 9999 x3.toNat) &&& Int32.ofInt 31).toInt) = 7
                  · rw [if_pos c13] at H
                    refine pt201 (s' := (407, [some (vr 9999), some (vr 0), some (vr 297), some (vi x3)], [], (Wd S L F G h))) (by decide) [8] rfl ⟨trivial, ⟨g5, (by omega : ¬ ((Int32.ofInt (F 9999 x3.toNat) &&& Int32.ofInt 31).toInt) < 0), (by omega : ¬ 31 < ((Int32.ofInt (F 9999 x3.toNat) &&& Int32.ofInt 31).toInt)), c13⟩⟩ ?_
                    exact wp.weak (a := [some (vr 9999), some (vr 0), some (vr 297), some (vi x3)]) ⟨rfl, rfl, rfl, rfl, trivial⟩ H
                  · rw [if_neg c13] at H
                    by_cases c14 : ((Int32.ofInt (F 9999 x3.toNat) &&& Int32.ofInt 31).toInt) = 8
                    · rw [if_pos c14] at H
                      refine pt201 (s' := (440, [some (vr 9999), some (vr 0), some (vr 297), some (vi x3)], [], (Wd S L F G h))) (by decide) [9] rfl ⟨trivial, ⟨g5, (by omega : ¬ ((Int32.ofInt (F 9999 x3.toNat) &&& Int32.ofInt 31).toInt) < 0), (by omega : ¬ 31 < ((Int32.ofInt (F 9999 x3.toNat) &&& Int32.ofInt 31).toInt)), c14⟩⟩ ?_
                      exact wp.weak (a := [some (vr 9999), some (vr 0), some (vr 297), some (vi x3)]) ⟨rfl, rfl, rfl, rfl, trivial⟩ H
                    · rw [if_neg c14] at H
                      by_cases c15 : ((Int32.ofInt (F 9999 x3.toNat) &&& Int32.ofInt 31).toInt) = 9
                      · rw [if_pos c15] at H
                        refine pt201 (s' := (473, [some (vr 9999), some (vr 0), some (vr 297), some (vi x3)], [], (Wd S L F G h))) (by decide) [10] rfl ⟨trivial, ⟨g5, (by omega : ¬ ((Int32.ofInt (F 9999 x3.toNat) &&& Int32.ofInt 31).toInt) < 0), (by omega : ¬ 31 < ((Int32.ofInt (F 9999 x3.toNat) &&& Int32.ofInt 31).toInt)), c15⟩⟩ ?_
                        exact wp.weak (a := [some (vr 9999), some (vr 0), some (vr 297), some (vi x3)]) ⟨rfl, rfl, rfl, rfl, trivial⟩ H
                      · rw [if_neg c15] at H
                        by_cases c16 : ((Int32.ofInt (F 9999 x3.toNat) &&& Int32.ofInt 31).toInt) = 10
                        · rw [if_pos c16] at H
                          refine pt201 (s' := (496, [some (vr 9999), some (vr 0), some (vr 297), some (vi x3)], [], (Wd S L F G h))) (by decide) [11] rfl ⟨trivial, ⟨g5, (by omega : ¬ ((Int32.ofInt (F 9999 x3.toNat) &&& Int32.ofInt 31).toInt) < 0), (by omega : ¬ 31 < ((Int32.ofInt (F 9999 x3.toNat) &&& Int32.ofInt 31).toInt)), c16⟩⟩ ?_
                          exact wp.weak (a := [some (vr 9999), some (vr 0), some (vr 297), some (vi x3)]) ⟨rfl, rfl, rfl, rfl, trivial⟩ H
                        · rw [if_neg c16] at H
                          by_cases c17 : ((Int32.ofInt (F 9999 x3.toNat) &&& Int32.ofInt 31).toInt) = 11
                          · rw [if_pos c17] at H
                            refine pt201 (s' := (539, [some (vr 9999), some (vr 0), some (vr 297), some (vi x3)], [], (Wd S L F G h))) (by decide) [12] rfl ⟨trivial, ⟨g5, (by omega : ¬ ((Int32.ofInt (F 9999 x3.toNat) &&& Int32.ofInt 31).toInt) < 0), (by omega : ¬ 31 < ((Int32.ofInt (F 9999 x3.toNat) &&& Int32.ofInt 31).toInt)), c17⟩⟩ ?_
                            exact wp.weak (a := [some (vr 9999), some (vr 0), some (vr 297), some (vi x3)]) ⟨rfl, rfl, rfl, rfl, trivial⟩ H
                          · rw [if_neg c17] at H
                            by_cases c18 : ((Int32.ofInt (F 9999 x3.toNat) &&& Int32.ofInt 31).toInt) = 12
                            · rw [if_pos c18] at H
                              refine pt201 (s' := (583, [some (vr 9999), some (vr 0), some (vr 297), some (vi x3)], [], (Wd S L F G h))) (by decide) [13] rfl ⟨trivial, ⟨g5, (by omega : ¬ ((Int32.ofInt (F 9999 x3.toNat) &&& Int32.ofInt 31).toInt) < 0), (by omega : ¬ 31 < ((Int32.ofInt (F 9999 x3.toNat) &&& Int32.ofInt 31).toInt)), c18⟩⟩ ?_
                              exact wp.weak (a := [some (vr 9999), some (vr 0), some (vr 297), some (vi x3)]) ⟨rfl, rfl, rfl, rfl, trivial⟩ H
                            · rw [if_neg c18] at H
                              by_cases c19 : ((Int32.ofInt (F 9999 x3.toNat) &&& Int32.ofInt 31).toInt) = 13
                              · rw [if_pos c19] at H
                                refine pt201 (s' := (617, [some (vr 9999), some (vr 0), some (vr 297), some (vi x3)], [], (Wd S L F G h))) (by decide) [14] rfl ⟨trivial, ⟨g5, (by omega : ¬ ((Int32.ofInt (F 9999 x3.toNat) &&& Int32.ofInt 31).toInt) < 0), (by omega : ¬ 31 < ((Int32.ofInt (F 9999 x3.toNat) &&& Int32.ofInt 31).toInt)), c19⟩⟩ ?_
                                exact wp.weak (a := [some (vr 9999), some (vr 0), some (vr 297), some (vi x3)]) ⟨rfl, rfl, rfl, rfl, trivial⟩ H
                              · rw [if_neg c19] at H
                                by_cases c20 : ((Int32.ofInt (F 9999 x3.toNat) &&& Int32.ofInt 31).toInt) = 14
                                · rw [if_pos c20] at H
                                  refine pt201 (s' := (650, [some (vr 9999), some (vr 0), some (vr 297), some (vi x3)], [], (Wd S L F G h))) (by decide) [15] rfl ⟨trivial, ⟨g5, (by omega : ¬ ((Int32.ofInt (F 9999 x3.toNat) &&& Int32.ofInt 31).toInt) < 0), (by omega : ¬ 31 < ((Int32.ofInt (F 9999 x3.toNat) &&& Int32.ofInt 31).toInt)), c20⟩⟩ ?_
                                  exact wp.weak (a := [some (vr 9999), some (vr 0), some (vr 297), some (vi x3)]) ⟨rfl, rfl, rfl, rfl, trivial⟩ H
                                · rw [if_neg c20] at H
                                  by_cases c21 : ((Int32.ofInt (F 9999 x3.toNat) &&& Int32.ofInt 31).toInt) = 15
                                  · rw [if_pos c21] at H
                                    refine pt201 (s' := (683, [some (vr 9999), some (vr 0), some (vr 297), some (vi x3)], [], (Wd S L F G h))) (by decide) [16] rfl ⟨trivial, ⟨g5, (by omega : ¬ ((Int32.ofInt (F 9999 x3.toNat) &&& Int32.ofInt 31).toInt) < 0), (by omega : ¬ 31 < ((Int32.ofInt (F 9999 x3.toNat) &&& Int32.ofInt 31).toInt)), c21⟩⟩ ?_
                                    exact wp.weak (a := [some (vr 9999), some (vr 0), some (vr 297), some (vi x3)]) ⟨rfl, rfl, rfl, rfl, trivial⟩ H
                                  · rw [if_neg c21] at H
                                    by_cases c22 : ((Int32.ofInt (F 9999 x3.toNat) &&& Int32.ofInt 31).toInt) = 16
                                    · rw [if_pos c22] at H
                                      refine pt201 (s' := (706, [some (vr 9999), some (vr 0), some (vr 297), some (vi x3)], [], (Wd S L F G h))) (by decide) [17] rfl ⟨trivial, ⟨g5, (by omega : ¬ ((Int32.ofInt (F 9999 x3.toNat) &&& Int32.ofInt 31).toInt) < 0), (by omega : ¬ 31 < ((Int32.ofInt (F 9999 x3.toNat) &&& Int32.ofInt 31).toInt)), c22⟩⟩ ?_
                                      exact wp.weak (a := [some (vr 9999), some (vr 0), some (vr 297), some (vi x3)]) ⟨rfl, rfl, rfl, rfl, trivial⟩ H
                                    · rw [if_neg c22] at H
                                      by_cases c23 : ((Int32.ofInt (F 9999 x3.toNat) &&& Int32.ofInt 31).toInt) = 17
                                      · rw [if_pos c23] at H
                                        refine pt201 (s' := (739, [some (vr 9999), some (vr 0), some (vr 297), some (vi x3)], [], (Wd S L F G h))) (by decide) [18] rfl ⟨trivial, ⟨g5, (by omega : ¬ ((Int32.ofInt (F 9999 x3.toNat) &&& Int32.ofInt 31).toInt) < 0), (by omega : ¬ 31 < ((Int32.ofInt (F 9999 x3.toNat) &&& Int32.ofInt 31).toInt)), c23⟩⟩ ?_
                                        exact wp.weak (a := [some (vr 9999), some (vr 0), some (vr 297), some (vi x3)]) ⟨rfl, rfl, rfl, rfl, trivial⟩ H
                                      · rw [if_neg c23] at H
                                        by_cases c24 : ((Int32.ofInt (F 9999 x3.toNat) &&& Int32.ofInt 31).toInt) = 18
                                        · rw [if_pos c24] at H
                                          refine pt201 (s' := (772, [some (vr 9999), some (vr 0), some (vr 297), some (vi x3)], [], (Wd S L F G h))) (by decide) [19] rfl ⟨trivial, ⟨g5, (by omega : ¬ ((Int32.ofInt (F 9999 x3.toNat) &&& Int32.ofInt 31).toInt) < 0), (by omega : ¬ 31 < ((Int32.ofInt (F 9999 x3.toNat) &&& Int32.ofInt 31).toInt)), c24⟩⟩ ?_
                                          exact wp.weak (a := [some (vr 9999), some (vr 0), some (vr 297), some (vi x3)]) ⟨rfl, rfl, rfl, rfl, trivial⟩ H
                                        · rw [if_neg c24] at H
                                          by_cases c25 : ((Int32.ofInt (F 9999 x3.toNat) &&& Int32.ofInt 31).toInt) = 19
                                          · rw [if_pos c25] at H
                                            refine pt201 (s' := (795, [some (vr 9999), some (vr 0), some (vr 297), some (vi x3)], [], (Wd S L F G h))) (by decide) [20] rfl ⟨trivial, ⟨g5, (by omega : ¬ ((Int32.ofInt (F 9999 x3.toNat) &&& Int32.ofInt 31).toInt) < 0), (by omega : ¬ 31 < ((Int32.ofInt (F 9999 x3.toNat) &&& Int32.ofInt 31).toInt)), c25⟩⟩ ?_
                                            exact wp.weak (a := [some (vr 9999), some (vr 0), some (vr 297), some (vi x3)]) ⟨rfl, rfl, rfl, rfl, trivial⟩ H
                                          · rw [if_neg c25] at H
                                            by_cases c26 : ((Int32.ofInt (F 9999 x3.toNat) &&& Int32.ofInt 31).toInt) = 20
                                            · rw [if_pos c26] at H
                                              refine pt201 (s' := (818, [some (vr 9999), some (vr 0), some (vr 297), some (vi x3)], [], (Wd S L F G h))) (by decide) [21] rfl ⟨trivial, ⟨g5, (by omega : ¬ ((Int32.ofInt (F 9999 x3.toNat) &&& Int32.ofInt 31).toInt) < 0), (by omega : ¬ 31 < ((Int32.ofInt (F 9999 x3.toNat) &&& Int32.ofInt 31).toInt)), c26⟩⟩ ?_
                                              exact wp.weak (a := [some (vr 9999), some (vr 0), some (vr 297), some (vi x3)]) ⟨rfl, rfl, rfl, rfl, trivial⟩ H
                                            · rw [if_neg c26] at H
                                              by_cases c27 : ((Int32.ofInt (F 9999 x3.toNat) &&& Int32.ofInt 31).toInt) = 21
                                              · rw [if_pos c27] at H
                                                refine pt201 (s' := (831, [some (vr 9999), some (vr 0), some (vr 297), some (vi x3)], [], (Wd S L F G h))) (by decide) [22] rfl ⟨trivial, ⟨g5, (by omega : ¬ ((Int32.ofInt (F 9999 x3.toNat) &&& Int32.ofInt 31).toInt) < 0), (by omega : ¬ 31 < ((Int32.ofInt (F 9999 x3.toNat) &&& Int32.ofInt 31).toInt)), c27⟩⟩ ?_
                                                exact wp.weak (a := [some (vr 9999), some (vr 0), some (vr 297), some (vi x3)]) ⟨rfl, rfl, rfl, rfl, trivial⟩ H
                                              · rw [if_neg c27] at H
                                                by_cases c28 : ((Int32.ofInt (F 9999 x3.toNat) &&& Int32.ofInt 31).toInt) = 22
                                                · rw [if_pos c28] at H
                                                  refine pt201 (s' := (854, [some (vr 9999), some (vr 0), some (vr 297), some (vi x3)], [], (Wd S L F G h))) (by decide) [23] rfl ⟨trivial, ⟨g5, (by omega : ¬ ((Int32.ofInt (F 9999 x3.toNat) &&& Int32.ofInt 31).toInt) < 0), (by omega : ¬ 31 < ((Int32.ofInt (F 9999 x3.toNat) &&& Int32.ofInt 31).toInt)), c28⟩⟩ ?_
                                                  exact wp.weak (a := [some (vr 9999), some (vr 0), some (vr 297), some (vi x3)]) ⟨rfl, rfl, rfl, rfl, trivial⟩ H
                                                · rw [if_neg c28] at H
                                                  by_cases c29 : ((Int32.ofInt (F 9999 x3.toNat) &&& Int32.ofInt 31).toInt) = 23
                                                  · rw [if_pos c29] at H
                                                    refine pt201 (s' := (867, [some (vr 9999), some (vr 0), some (vr 297), some (vi x3)], [], (Wd S L F G h))) (by decide) [24] rfl ⟨trivial, ⟨g5, (by omega : ¬ ((Int32.ofInt (F 9999 x3.toNat) &&& Int32.ofInt 31).toInt) < 0), (by omega : ¬ 31 < ((Int32.ofInt (F 9999 x3.toNat) &&& Int32.ofInt 31).toInt)), c29⟩⟩ ?_
                                                    exact wp.weak (a := [some (vr 9999), some (vr 0), some (vr 297), some (vi x3)]) ⟨rfl, rfl, rfl, rfl, trivial⟩ H
                                                  · rw [if_neg c29] at H
                                                    by_cases c30 : ((Int32.ofInt (F 9999 x3.toNat) &&& Int32.ofInt 31).toInt) = 24
                                                    · rw [if_pos c30] at H
                                                      refine pt201 (s' := (890, [some (vr 9999), some (vr 0), some (vr 297), some (vi x3)], [], (Wd S L F G h))) (by decide) [25] rfl ⟨trivial, ⟨g5, (by omega : ¬ ((Int32.ofInt (F 9999 x3.toNat) &&& Int32.ofInt 31).toInt) < 0), (by omega : ¬ 31 < ((Int32.ofInt (F 9999 x3.toNat) &&& Int32.ofInt 31).toInt)), c30⟩⟩ ?_
                                                      exact wp.weak (a := [some (vr 9999), some (vr 0), some (vr 297), some (vi x3)]) ⟨rfl, rfl, rfl, rfl, trivial⟩ H
                                                    · rw [if_neg c30] at H
                                                      by_cases c31 : ((Int32.ofInt (F 9999 x3.toNat) &&& Int32.ofInt 31).toInt) = 25
                                                      · rw [if_pos c31] at H
                                                        refine pt201 (s' := (903, [some (vr 9999), some (vr 0), some (vr 297), some (vi x3)], [], (Wd S L F G h))) (by decide) [26] rfl ⟨trivial, ⟨g5, (by omega : ¬ ((Int32.ofInt (F 9999 x3.toNat) &&& Int32.ofInt 31).toInt) < 0), (by omega : ¬ 31 < ((Int32.ofInt (F 9999 x3.toNat) &&& Int32.ofInt 31).toInt)), c31⟩⟩ ?_
                                                        exact wp.weak (a := [some (vr 9999), some (vr 0), some (vr 297), some (vi x3)]) ⟨rfl, rfl, rfl, rfl, trivial⟩ H
                                                      · rw [if_neg c31] at H
                                                        by_cases c32 : ((Int32.ofInt (F 9999 x3.toNat) &&& Int32.ofInt 31).toInt) = 26
                                                        · rw [if_pos c32] at H
                                                          refine pt201 (s' := (916, [some (vr 9999), some (vr 0), some (vr 297), some (vi x3)], [], (Wd S L F G h))) (by decide) [27] rfl ⟨trivial, ⟨g5, (by omega : ¬ ((Int32.ofInt (F 9999 x3.toNat) &&& Int32.ofInt 31).toInt) < 0), (by omega : ¬ 31 < ((Int32.ofInt (F 9999 x3.toNat) &&& Int32.ofInt 31).toInt)), c32⟩⟩ ?_
                                                          exact wp.weak (a := [some (vr 9999), some (vr 0), some (vr 297), some (vi x3)]) ⟨rfl, rfl, rfl, rfl, trivial⟩ H
                                                        · rw [if_neg c32] at H
                                                          by_cases c33 : ((Int32.ofInt (F 9999 x3.toNat) &&& Int32.ofInt 31).toInt) = 27
                                                          · rw [if_pos c33] at H
                                                            refine pt201 (s' := (969, [some (vr 9999), some (vr 0), some (vr 297), some (vi x3)], [], (Wd S L F G h))) (by decide) [28] rfl ⟨trivial, ⟨g5, (by omega : ¬ ((Int32.ofInt (F 9999 x3.toNat) &&& Int32.ofInt 31).toInt) < 0), (by omega : ¬ 31 < ((Int32.ofInt (F 9999 x3.toNat) &&& Int32.ofInt 31).toInt)), c33⟩⟩ ?_
                                                            exact wp.weak (a := [some (vr 9999), some (vr 0), some (vr 297), some (vi x3)]) ⟨rfl, rfl, rfl, rfl, trivial⟩ H
                                                          · rw [if_neg c33] at H
                                                            by_cases c34 : ((Int32.ofInt (F 9999 x3.toNat) &&& Int32.ofInt 31).toInt) = 28
                                                            · rw [if_pos c34] at H
                                                              refine pt201 (s' := (1012, [some (vr 9999), some (vr 0), some (vr 297), some (vi x3)], [], (Wd S L F G h))) (by decide) [29] rfl ⟨trivial, ⟨g5, (by omega : ¬ ((Int32.ofInt (F 9999 x3.toNat) &&& Int32.ofInt 31).toInt) < 0), (by omega : ¬ 31 < ((Int32.ofInt (F 9999 x3.toNat) &&& Int32.ofInt 31).toInt)), c34⟩⟩ ?_
                                                              exact wp.weak (a := [some (vr 9999), some (vr 0), some (vr 297), some (vi x3)]) ⟨rfl, rfl, rfl, rfl, trivial⟩ H
                                                            · rw [if_neg c34] at H
                                                              by_cases c35 : ((Int32.ofInt (F 9999 x3.toNat) &&& Int32.ofInt 31).toInt) = 29
                                                              · rw [if_pos c35] at H
                                                                refine pt201 (s' := (1055, [some (vr 9999), some (vr 0), some (vr 297), some (vi x3)], [], (Wd S L F G h))) (by decide) [30] rfl ⟨trivial, ⟨g5, (by omega : ¬ ((Int32.ofInt (F 9999 x3.toNat) &&& Int32.ofInt 31).toInt) < 0), (by omega : ¬ 31 < ((Int32.ofInt (F 9999 x3.toNat) &&& Int32.ofInt 31).toInt)), c35⟩⟩ ?_
                                                                exact wp.weak (a := [some (vr 9999), some (vr 0), some (vr 297), some (vi x3)]) ⟨rfl, rfl, rfl, rfl, trivial⟩ H
                                                              · rw [if_neg c35] at H
                                                                by_cases c36 : ((Int32.ofInt (F 9999 x3.toNat) &&& Int32.ofInt 31).toInt) = 30
                                                                · rw [if_pos c36] at H
                                                                  refine pt201 (s' := (1078, [some (vr 9999), some (vr 0), some (vr 297), some (vi x3)], [], (Wd S L F G h))) (by decide) [31] rfl ⟨trivial, ⟨g5, (by omega : ¬ ((Int32.ofInt (F 9999 x3.toNat) &&& Int32.ofInt 31).toInt) < 0), (by omega : ¬ 31 < ((Int32.ofInt (F 9999 x3.toNat) &&& Int32.ofInt 31).toInt)), c36⟩⟩ ?_
                                                                  exact wp.weak (a := [some (vr 9999), some (vr 0), some (vr 297), some (vi x3)]) ⟨rfl, rfl, rfl, rfl, trivial⟩ H
                                                                · rw [if_neg c36] at H
                                                                  by_cases c37 : ((Int32.ofInt (F 9999 x3.toNat) &&& Int32.ofInt 31).toInt) = 31
                                                                  · rw [if_pos c37] at H
                                                                    refine pt201 (s' := (1161, [some (vr 9999), some (vr 0), some (vr 297), some (vi x3)], [], (Wd S L F G h))) (by decide) [32] rfl ⟨trivial, ⟨g5, (by omega : ¬ ((Int32.ofInt (F 9999 x3.toNat) &&& Int32.ofInt 31).toInt) < 0), (by omega : ¬ 31 < ((Int32.ofInt (F 9999 x3.toNat) &&& Int32.ofInt 31).toInt)), c37⟩⟩ ?_
                                                                    exact wp.weak (a := [some (vr 9999), some (vr 0), some (vr 297), some (vi x3)]) ⟨rfl, rfl, rfl, rfl, trivial⟩ H
                                                                  · rw [if_neg c37] at H
                                                                    refine pt201 (s' := (18, [some (vr 9999), some (vr 0), some (vr 297), some (vi (x3 + 6))], [], (Wd S L F G h))) (by decide) [0, 0, 0] rfl ⟨trivial, ⟨g5, (by omega : ((Int32.ofInt (F 9999 x3.toNat) &&& Int32.ofInt 31).toInt) < 0 ∨ 31 < ((Int32.ofInt (F 9999 x3.toNat) &&& Int32.ofInt 31).toInt))⟩⟩ ?_
                                                                    exact wp.weak (a := [some (vr 9999), some (vr 0), some (vr 297), some (vi (x3 + 6))]) ⟨rfl, rfl, rfl, rfl, trivial⟩ H
set_option maxRecDepth 100000 in
set_option maxHeartbeats 4000000 in
theorem T201_176 {S L : Nat} {F G : Nat → Nat → Int} {h : Nat → Nat → Option Nat} (hh : RfH h) {x3 : Int}  {Q : Option V2 → W2 → Prop}
    (H : (R32 (x3 + 1) ∧
 (0 ≤ (x3 + 1) ∧ (x3 + 1) < (L : Int)) ∧
 R32 (x3 + 2) ∧
 (0 ≤ (x3 + 2) ∧ (x3 + 2) < (L : Int)) ∧
 R32 (x3 + 3) ∧
 (0 ≤ (x3 + 3) ∧ (x3 + 3) < (L : Int)) ∧
 C66_0 (F 9999 (x3 + 1).toNat) (F 9999 (x3 + 2).toNat) (F 9999 (x3 + 3).toNat) (Wd S L F G h) (fun v w1 => ∃ (v7 : Int) (F8 : Nat → Nat → Int) (h9 : Nat → Nat → Option Nat), v = some (vi v7) ∧ w1 = (Wd S L F8 G h9) ∧ RfH h9 ∧
  C164_0 (F8 9999 (x3 + 1).toNat) (F8 9999 (x3 + 2).toNat) (F8 9999 (x3 + 3).toNat) (Wd S L F8 G h9) (fun v w1 => ∃ (v11 : Int) (F12 : Nat → Nat → Int), v = some (vi v11) ∧ w1 = (Wd S L F12 G h9) ∧
   (R32 v7 ∧
   R32 v11 ∧
   (if v7 = v11 then
    C201_18 (x3 + 6) (Wd S L F12 G h9) Q
   else
    Q (some (vi 0)) (Wd S L F12 G h9))))))) : C201_176 x3 (Wd S L F G h) Q := by
  obtain ⟨g1, H⟩ := H
  obtain ⟨g2, H⟩ := H
  obtain ⟨g3, H⟩ := H
  obtain ⟨g4, H⟩ := H
  obtain ⟨g5, H⟩ := H
  obtain ⟨g6, H⟩ := H
  refine pt201 (s' := (192, [some (vr 9999), some (vr 0), some (vr 297), some (vi x3)], [vi (F 9999 (x3 + 3).toNat), vi (F 9999 (x3 + 2).toNat), vi (F 9999 (x3 + 1).toNat), vr 0], (Wd S L F G h))) (by decide) [0, 0, 0, 0, 0, 1, 0, 0, 0, 0, 1, 0, 0, 0, 0, 1] rfl ⟨⟨⟨trivial, ⟨rfl, g1, g2.1, g2.2⟩⟩, ⟨rfl, g3, g4.1, g4.2⟩⟩, ⟨rfl, g5, g6.1, g6.2⟩⟩ ?_
  refine wp.cl am_m201 rfl am_m66 9 [vr 0, vi (F 9999 (x3 + 1).toNat), vi (F 9999 (x3 + 2).toNat), vi (F 9999 (x3 + 3).toNat)] [] rfl (Nat.le_of_ble_eq_true rfl) (Nat.le_of_ble_eq_true rfl) rfl (Nat.le_of_ble_eq_true rfl) rfl (Nat.le_of_ble_eq_true rfl) (Nat.le_of_ble_eq_true rfl) ⟨_, _, rfl, Nat.le_of_ble_eq_true rfl, rfl⟩ ?_
  refine wp.mono H ?_
  rintro v w1 ⟨v7, F8, h9, rfl, rfl, r10, H⟩
  show wp 12 201 (195, [some (vr 9999), some (vr 0), some (vr 297), some (vi x3)], [vi v7], (Wd S L F8 G h9)) _
  refine pt201 (s' := (211, [some (vr 9999), some (vr 0), some (vr 297), some (vi x3)], [vi (F8 9999 (x3 + 3).toNat), vi (F8 9999 (x3 + 2).toNat), vi (F8 9999 (x3 + 1).toNat), vr 297, vi v7], (Wd S L F8 G h9))) (by decide) [0, 0, 0, 0, 0, 1, 0, 0, 0, 0, 1, 0, 0, 0, 0, 1] rfl ⟨⟨⟨trivial, ⟨rfl, g1, g2.1, g2.2⟩⟩, ⟨rfl, g3, g4.1, g4.2⟩⟩, ⟨rfl, g5, g6.1, g6.2⟩⟩ ?_
  refine wp.cl am_m201 rfl am_m164 8 [vr 297, vi (F8 9999 (x3 + 1).toNat), vi (F8 9999 (x3 + 2).toNat), vi (F8 9999 (x3 + 3).toNat)] [vi v7] rfl (Nat.le_of_ble_eq_true rfl) (Nat.le_of_ble_eq_true rfl) rfl (Nat.le_of_ble_eq_true rfl) rfl (Nat.le_of_ble_eq_true rfl) (Nat.le_of_ble_eq_true rfl) ⟨_, _, rfl, Nat.le_of_ble_eq_true rfl, rfl⟩ ?_
  refine wp.mono H ?_
  rintro v w1 ⟨v11, F12, rfl, rfl, H⟩
  show wp 12 201 (214, [some (vr 9999), some (vr 0), some (vr 297), some (vi x3)], [vi v11, vi v7], (Wd S L F12 G h9)) _
  obtain ⟨g13, H⟩ := H
  obtain ⟨g14, H⟩ := H
  by_cases c15 : v7 = v11
  · rw [if_pos c15] at H
    refine pt201 (s' := (18, [some (vr 9999), some (vr 0), some (vr 297), some (vi (x3 + 6))], [], (Wd S L F12 G h9))) (by decide) [1, 0, 0] rfl ⟨trivial, ⟨⟨g13, g14⟩, c15⟩⟩ ?_
    exact wp.weak (a := [some (vr 9999), some (vr 0), some (vr 297), some (vi (x3 + 6))]) ⟨rfl, rfl, rfl, rfl, trivial⟩ H
  · rw [if_neg c15] at H
    refine pt201 (s' := (218, [some (vr 9999), some (vr 0), some (vr 297), some (vi x3)], [vi 0], (Wd S L F12 G h9))) (by decide) [0, 0] rfl ⟨trivial, ⟨⟨g13, g14⟩, c15⟩⟩ ?_
    exact wp.fin (v := some (vi 0)) (by decide) am_m201 rfl ⟨_, rfl, Or.inr ⟨rfl, Or.inl rfl⟩, rfl⟩ H
set_option maxRecDepth 100000 in
set_option maxHeartbeats 4000000 in
theorem T201_219 {S L : Nat} {F G : Nat → Nat → Int} {h : Nat → Nat → Option Nat} (hh : RfH h) {x3 : Int}  {Q : Option V2 → W2 → Prop}
    (H : (R32 (x3 + 1) ∧
 (0 ≤ (x3 + 1) ∧ (x3 + 1) < (L : Int)) ∧
 R32 (x3 + 2) ∧
 (0 ≤ (x3 + 2) ∧ (x3 + 2) < (L : Int)) ∧
 R32 (x3 + 3) ∧
 (0 ≤ (x3 + 3) ∧ (x3 + 3) < (L : Int)) ∧
 C67_0 (F 9999 (x3 + 1).toNat) (F 9999 (x3 + 2).toNat) (F 9999 (x3 + 3).toNat) (Wd S L F G h) (fun v w1 => ∃ (v7 : Int) (F8 : Nat → Nat → Int) (h9 : Nat → Nat → Option Nat), v = some (vi v7) ∧ w1 = (Wd S L F8 G h9) ∧ RfH h9 ∧
  C165_0 (F8 9999 (x3 + 1).toNat) (F8 9999 (x3 + 2).toNat) (F8 9999 (x3 + 3).toNat) (Wd S L F8 G h9) (fun v w1 => ∃ (v11 : Int) (F12 : Nat → Nat → Int), v = some (vi v11) ∧ w1 = (Wd S L F12 G h9) ∧
   (R32 v7 ∧
   R32 v11 ∧
   (if v7 = v11 then
    C201_18 (x3 + 6) (Wd S L F12 G h9) Q
   else
    Q (some (vi 0)) (Wd S L F12 G h9))))))) : C201_219 x3 (Wd S L F G h) Q := by
  obtain ⟨g1, H⟩ := H
  obtain ⟨g2, H⟩ := H
  obtain ⟨g3, H⟩ := H
  obtain ⟨g4, H⟩ := H
  obtain ⟨g5, H⟩ := H
  obtain ⟨g6, H⟩ := H
  refine pt201 (s' := (235, [some (vr 9999), some (vr 0), some (vr 297), some (vi x3)], [vi (F 9999 (x3 + 3).toNat), vi (F 9999 (x3 + 2).toNat), vi (F 9999 (x3 + 1).toNat), vr 0], (Wd S L F G h))) (by decide) [0, 0, 0, 0, 0, 1, 0, 0, 0, 0, 1, 0, 0, 0, 0, 1] rfl ⟨⟨⟨trivial, ⟨rfl, g1, g2.1, g2.2⟩⟩, ⟨rfl, g3, g4.1, g4.2⟩⟩, ⟨rfl, g5, g6.1, g6.2⟩⟩ ?_
  refine wp.cl am_m201 rfl am_m67 9 [vr 0, vi (F 9999 (x3 + 1).toNat), vi (F 9999 (x3 + 2).toNat), vi (F 9999 (x3 + 3).toNat)] [] rfl (Nat.le_of_ble_eq_true rfl) (Nat.le_of_ble_eq_true rfl) rfl (Nat.le_of_ble_eq_true rfl) rfl (Nat.le_of_ble_eq_true rfl) (Nat.le_of_ble_eq_true rfl) ⟨_, _, rfl, Nat.le_of_ble_eq_true rfl, rfl⟩ ?_
  refine wp.mono H ?_
  rintro v w1 ⟨v7, F8, h9, rfl, rfl, r10, H⟩
  show wp 12 201 (238, [some (vr 9999), some (vr 0), some (vr 297), some (vi x3)], [vi v7], (Wd S L F8 G h9)) _
  refine pt201 (s' := (254, [some (vr 9999), some (vr 0), some (vr 297), some (vi x3)], [vi (F8 9999 (x3 + 3).toNat), vi (F8 9999 (x3 + 2).toNat), vi (F8 9999 (x3 + 1).toNat), vr 297, vi v7], (Wd S L F8 G h9))) (by decide) [0, 0, 0, 0, 0, 1, 0, 0, 0, 0, 1, 0, 0, 0, 0, 1] rfl ⟨⟨⟨trivial, ⟨rfl, g1, g2.1, g2.2⟩⟩, ⟨rfl, g3, g4.1, g4.2⟩⟩, ⟨rfl, g5, g6.1, g6.2⟩⟩ ?_
  refine wp.cl am_m201 rfl am_m165 8 [vr 297, vi (F8 9999 (x3 + 1).toNat), vi (F8 9999 (x3 + 2).toNat), vi (F8 9999 (x3 + 3).toNat)] [vi v7] rfl (Nat.le_of_ble_eq_true rfl) (Nat.le_of_ble_eq_true rfl) rfl (Nat.le_of_ble_eq_true rfl) rfl (Nat.le_of_ble_eq_true rfl) (Nat.le_of_ble_eq_true rfl) ⟨_, _, rfl, Nat.le_of_ble_eq_true rfl, rfl⟩ ?_
  refine wp.mono H ?_
  rintro v w1 ⟨v11, F12, rfl, rfl, H⟩
  show wp 12 201 (257, [some (vr 9999), some (vr 0), some (vr 297), some (vi x3)], [vi v11, vi v7], (Wd S L F12 G h9)) _
  obtain ⟨g13, H⟩ := H
  obtain ⟨g14, H⟩ := H
  by_cases c15 : v7 = v11
  · rw [if_pos c15] at H
    refine pt201 (s' := (18, [some (vr 9999), some (vr 0), some (vr 297), some (vi (x3 + 6))], [], (Wd S L F12 G h9))) (by decide) [1, 0, 0] rfl ⟨trivial, ⟨⟨g13, g14⟩, c15⟩⟩ ?_
    exact wp.weak (a := [some (vr 9999), some (vr 0), some (vr 297), some (vi (x3 + 6))]) ⟨rfl, rfl, rfl, rfl, trivial⟩ H
  · rw [if_neg c15] at H
    refine pt201 (s' := (261, [some (vr 9999), some (vr 0), some (vr 297), some (vi x3)], [vi 0], (Wd S L F12 G h9))) (by decide) [0, 0] rfl ⟨trivial, ⟨⟨g13, g14⟩, c15⟩⟩ ?_
    exact wp.fin (v := some (vi 0)) (by decide) am_m201 rfl ⟨_, rfl, Or.inr ⟨rfl, Or.inl rfl⟩, rfl⟩ H
set_option maxRecDepth 100000 in
set_option maxHeartbeats 4000000 in
theorem T201_262 {S L : Nat} {F G : Nat → Nat → Int} {h : Nat → Nat → Option Nat} (hh : RfH h) {x3 : Int}  {Q : Option V2 → W2 → Prop}
    (H : (R32 (x3 + 1) ∧
 (0 ≤ (x3 + 1) ∧ (x3 + 1) < (L : Int)) ∧
 R32 (x3 + 2) ∧
 (0 ≤ (x3 + 2) ∧ (x3 + 2) < (L : Int)) ∧
 C68_0 (F 9999 (x3 + 1).toNat) (F 9999 (x3 + 2).toNat) (Wd S L F G h) (fun v w1 => ∃ (v5 : Int) (F6 : Nat → Nat → Int) (h7 : Nat → Nat → Option Nat), v = some (vi v5) ∧ w1 = (Wd S L F6 G h7) ∧ RfH h7 ∧
  C166_0 (F6 9999 (x3 + 1).toNat) (F6 9999 (x3 + 2).toNat) (Wd S L F6 G h7) (fun v w1 => ∃ (v9 : Int) (F10 : Nat → Nat → Int), v = some (vi v9) ∧ w1 = (Wd S L F10 G h7) ∧
   (R32 v5 ∧
   R32 v9 ∧
   (if v5 = v9 then
    C201_18 (x3 + 6) (Wd S L F10 G h7) Q
   else
    Q (some (vi 0)) (Wd S L F10 G h7))))))) : C201_262 x3 (Wd S L F G h) Q := by
  obtain ⟨g1, H⟩ := H
  obtain ⟨g2, H⟩ := H
  obtain ⟨g3, H⟩ := H
  obtain ⟨g4, H⟩ := H
  refine pt201 (s' := (273, [some (vr 9999), some (vr 0), some (vr 297), some (vi x3)], [vi (F 9999 (x3 + 2).toNat), vi (F 9999 (x3 + 1).toNat), vr 0], (Wd S L F G h))) (by decide) [0, 0, 0, 0, 0, 1, 0, 0, 0, 0, 1] rfl ⟨⟨trivial, ⟨rfl, g1, g2.1, g2.2⟩⟩, ⟨rfl, g3, g4.1, g4.2⟩⟩ ?_
  refine wp.cl am_m201 rfl am_m68 10 [vr 0, vi (F 9999 (x3 + 1).toNat), vi (F 9999 (x3 + 2).toNat)] [] rfl (Nat.le_of_ble_eq_true rfl) (Nat.le_of_ble_eq_true rfl) rfl (Nat.le_of_ble_eq_true rfl) rfl (Nat.le_of_ble_eq_true rfl) (Nat.le_of_ble_eq_true rfl) ⟨_, _, rfl, Nat.le_of_ble_eq_true rfl, rfl⟩ ?_
  refine wp.mono H ?_
  rintro v w1 ⟨v5, F6, h7, rfl, rfl, r8, H⟩
  show wp 12 201 (276, [some (vr 9999), some (vr 0), some (vr 297), some (vi x3)], [vi v5], (Wd S L F6 G h7)) _
  refine pt201 (s' := (287, [some (vr 9999), some (vr 0), some (vr 297), some (vi x3)], [vi (F6 9999 (x3 + 2).toNat), vi (F6 9999 (x3 + 1).toNat), vr 297, vi v5], (Wd S L F6 G h7))) (by decide) [0, 0, 0, 0, 0, 1, 0, 0, 0, 0, 1] rfl ⟨⟨trivial, ⟨rfl, g1, g2.1, g2.2⟩⟩, ⟨rfl, g3, g4.1, g4.2⟩⟩ ?_
  refine wp.cl am_m201 rfl am_m166 8 [vr 297, vi (F6 9999 (x3 + 1).toNat), vi (F6 9999 (x3 + 2).toNat)] [vi v5] rfl (Nat.le_of_ble_eq_true rfl) (Nat.le_of_ble_eq_true rfl) rfl (Nat.le_of_ble_eq_true rfl) rfl (Nat.le_of_ble_eq_true rfl) (Nat.le_of_ble_eq_true rfl) ⟨_, _, rfl, Nat.le_of_ble_eq_true rfl, rfl⟩ ?_
  refine wp.mono H ?_
  rintro v w1 ⟨v9, F10, rfl, rfl, H⟩
  show wp 12 201 (290, [some (vr 9999), some (vr 0), some (vr 297), some (vi x3)], [vi v9, vi v5], (Wd S L F10 G h7)) _
  obtain ⟨g11, H⟩ := H
  obtain ⟨g12, H⟩ := H
  by_cases c13 : v5 = v9
  · rw [if_pos c13] at H
    refine pt201 (s' := (18, [some (vr 9999), some (vr 0), some (vr 297), some (vi (x3 + 6))], [], (Wd S L F10 G h7))) (by decide) [1, 0, 0] rfl ⟨trivial, ⟨⟨g11, g12⟩, c13⟩⟩ ?_
    exact wp.weak (a := [some (vr 9999), some (vr 0), some (vr 297), some (vi (x3 + 6))]) ⟨rfl, rfl, rfl, rfl, trivial⟩ H
  · rw [if_neg c13] at H
    refine pt201 (s' := (294, [some (vr 9999), some (vr 0), some (vr 297), some (vi x3)], [vi 0], (Wd S L F10 G h7))) (by decide) [0, 0] rfl ⟨trivial, ⟨⟨g11, g12⟩, c13⟩⟩ ?_
    exact wp.fin (v := some (vi 0)) (by decide) am_m201 rfl ⟨_, rfl, Or.inr ⟨rfl, Or.inl rfl⟩, rfl⟩ H
set_option maxRecDepth 100000 in
set_option maxHeartbeats 4000000 in
theorem T201_295 {S L : Nat} {F G : Nat → Nat → Int} {h : Nat → Nat → Option Nat} (hh : RfH h) {x3 : Int}  {Q : Option V2 → W2 → Prop}
    (H : (R32 (x3 + 1) ∧
 (0 ≤ (x3 + 1) ∧ (x3 + 1) < (L : Int)) ∧
 C69_0 (F 9999 (x3 + 1).toNat) (Wd S L F G h) (fun v w1 => ∃ (v3 : Int) (F4 : Nat → Nat → Int) (h5 : Nat → Nat → Option Nat), v = some (vi v3) ∧ w1 = (Wd S L F4 G h5) ∧ RfH h5 ∧
  C167_0 (F4 9999 (x3 + 1).toNat) (Wd S L F4 G h5) (fun v w1 => ∃ (v7 : Int) (F8 : Nat → Nat → Int), v = some (vi v7) ∧ w1 = (Wd S L F8 G h5) ∧
   (R32 v3 ∧
   R32 v7 ∧
   (if v3 = v7 then
    C201_18 (x3 + 6) (Wd S L F8 G h5) Q
   else
    Q (some (vi 0)) (Wd S L F8 G h5))))))) : C201_295 x3 (Wd S L F G h) Q := by
  obtain ⟨g1, H⟩ := H
  obtain ⟨g2, H⟩ := H
  refine pt201 (s' := (301, [some (vr 9999), some (vr 0), some (vr 297), some (vi x3)], [vi (F 9999 (x3 + 1).toNat), vr 0], (Wd S L F G h))) (by decide) [0, 0, 0, 0, 0, 1] rfl ⟨trivial, ⟨rfl, g1, g2.1, g2.2⟩⟩ ?_
  refine wp.cl am_m201 rfl am_m69 9 [vr 0, vi (F 9999 (x3 + 1).toNat)] [] rfl (Nat.le_of_ble_eq_true rfl) (Nat.le_of_ble_eq_true rfl) rfl (Nat.le_of_ble_eq_true rfl) rfl (Nat.le_of_ble_eq_true rfl) (Nat.le_of_ble_eq_true rfl) ⟨_, _, rfl, Nat.le_of_ble_eq_true rfl, rfl⟩ ?_
  refine wp.mono H ?_
  rintro v w1 ⟨v3, F4, h5, rfl, rfl, r6, H⟩
  show wp 12 201 (304, [some (vr 9999), some (vr 0), some (vr 297), some (vi x3)], [vi v3], (Wd S L F4 G h5)) _
  refine pt201 (s' := (310, [some (vr 9999), some (vr 0), some (vr 297), some (vi x3)], [vi (F4 9999 (x3 + 1).toNat), vr 297, vi v3], (Wd S L F4 G h5))) (by decide) [0, 0, 0, 0, 0, 1] rfl ⟨trivial, ⟨rfl, g1, g2.1, g2.2⟩⟩ ?_
  refine wp.cl am_m201 rfl am_m167 9 [vr 297, vi (F4 9999 (x3 + 1).toNat)] [vi v3] rfl (Nat.le_of_ble_eq_true rfl) (Nat.le_of_ble_eq_true rfl) rfl (Nat.le_of_ble_eq_true rfl) rfl (Nat.le_of_ble_eq_true rfl) (Nat.le_of_ble_eq_true rfl) ⟨_, _, rfl, Nat.le_of_ble_eq_true rfl, rfl⟩ ?_
  refine wp.mono H ?_
  rintro v w1 ⟨v7, F8, rfl, rfl, H⟩
  show wp 12 201 (313, [some (vr 9999), some (vr 0), some (vr 297), some (vi x3)], [vi v7, vi v3], (Wd S L F8 G h5)) _
  obtain ⟨g9, H⟩ := H
  obtain ⟨g10, H⟩ := H
  by_cases c11 : v3 = v7
  · rw [if_pos c11] at H
    refine pt201 (s' := (18, [some (vr 9999), some (vr 0), some (vr 297), some (vi (x3 + 6))], [], (Wd S L F8 G h5))) (by decide) [1, 0, 0] rfl ⟨trivial, ⟨⟨g9, g10⟩, c11⟩⟩ ?_
    exact wp.weak (a := [some (vr 9999), some (vr 0), some (vr 297), some (vi (x3 + 6))]) ⟨rfl, rfl, rfl, rfl, trivial⟩ H
  · rw [if_neg c11] at H
    refine pt201 (s' := (317, [some (vr 9999), some (vr 0), some (vr 297), some (vi x3)], [vi 0], (Wd S L F8 G h5))) (by decide) [0, 0] rfl ⟨trivial, ⟨⟨g9, g10⟩, c11⟩⟩ ?_
    exact wp.fin (v := some (vi 0)) (by decide) am_m201 rfl ⟨_, rfl, Or.inr ⟨rfl, Or.inl rfl⟩, rfl⟩ H
set_option maxRecDepth 100000 in
set_option maxHeartbeats 4000000 in
theorem T201_318 {S L : Nat} {F G : Nat → Nat → Int} {h : Nat → Nat → Option Nat} (hh : RfH h) {x3 : Int}  {Q : Option V2 → W2 → Prop}
    (H : (R32 (x3 + 1) ∧
 (0 ≤ (x3 + 1) ∧ (x3 + 1) < (L : Int)) ∧
 R32 (x3 + 2) ∧
 (0 ≤ (x3 + 2) ∧ (x3 + 2) < (L : Int)) ∧
 C70_0 (F 9999 (x3 + 1).toNat) (F 9999 (x3 + 2).toNat) (Wd S L F G h) (fun v w1 => ∃ (v5 : Int) (F6 : Nat → Nat → Int) (h7 : Nat → Nat → Option Nat), v = some (vi v5) ∧ w1 = (Wd S L F6 G h7) ∧ RfH h7 ∧
  C168_0 (F6 9999 (x3 + 1).toNat) (F6 9999 (x3 + 2).toNat) (Wd S L F6 G h7) (fun v w1 => ∃ (v9 : Int) (F10 : Nat → Nat → Int), v = some (vi v9) ∧ w1 = (Wd S L F10 G h7) ∧
   (R32 v5 ∧
   R32 v9 ∧
   (if v5 = v9 then
    C201_18 (x3 + 6) (Wd S L F10 G h7) Q
   else
    Q (some (vi 0)) (Wd S L F10 G h7))))))) : C201_318 x3 (Wd S L F G h) Q := by
  obtain ⟨g1, H⟩ := H
  obtain ⟨g2, H⟩ := H
  obtain ⟨g3, H⟩ := H
  obtain ⟨g4, H⟩ := H
  refine pt201 (s' := (329, [some (vr 9999), some (vr 0), some (vr 297), some (vi x3)], [vi (F 9999 (x3 + 2).toNat), vi (F 9999 (x3 + 1).toNat), vr 0], (Wd S L F G h))) (by decide) [0, 0, 0, 0, 0, 1, 0, 0, 0, 0, 1] rfl ⟨⟨trivial, ⟨rfl, g1, g2.1, g2.2⟩⟩, ⟨rfl, g3, g4.1, g4.2⟩⟩ ?_
  refine wp.cl am_m201 rfl am_m70 9 [vr 0, vi (F 9999 (x3 + 1).toNat), vi (F 9999 (x3 + 2).toNat)] [] rfl (Nat.le_of_ble_eq_true rfl) (Nat.le_of_ble_eq_true rfl) rfl (Nat.le_of_ble_eq_true rfl) rfl (Nat.le_of_ble_eq_true rfl) (Nat.le_of_ble_eq_true rfl) ⟨_, _, rfl, Nat.le_of_ble_eq_true rfl, rfl⟩ ?_
  refine wp.mono H ?_
  rintro v w1 ⟨v5, F6, h7, rfl, rfl, r8, H⟩
  show wp 12 201 (332, [some (vr 9999), some (vr 0), some (vr 297), some (vi x3)], [vi v5], (Wd S L F6 G h7)) _
  refine pt201 (s' := (343, [some (vr 9999), some (vr 0), some (vr 297), some (vi x3)], [vi (F6 9999 (x3 + 2).toNat), vi (F6 9999 (x3 + 1).toNat), vr 297, vi v5], (Wd S L F6 G h7))) (by decide) [0, 0, 0, 0, 0, 1, 0, 0, 0, 0, 1] rfl ⟨⟨trivial, ⟨rfl, g1, g2.1, g2.2⟩⟩, ⟨rfl, g3, g4.1, g4.2⟩⟩ ?_
  refine wp.cl am_m201 rfl am_m168 8 [vr 297, vi (F6 9999 (x3 + 1).toNat), vi (F6 9999 (x3 + 2).toNat)] [vi v5] rfl (Nat.le_of_ble_eq_true rfl) (Nat.le_of_ble_eq_true rfl) rfl (Nat.le_of_ble_eq_true rfl) rfl (Nat.le_of_ble_eq_true rfl) (Nat.le_of_ble_eq_true rfl) ⟨_, _, rfl, Nat.le_of_ble_eq_true rfl, rfl⟩ ?_
  refine wp.mono H ?_
  rintro v w1 ⟨v9, F10, rfl, rfl, H⟩
  show wp 12 201 (346, [some (vr 9999), some (vr 0), some (vr 297), some (vi x3)], [vi v9, vi v5], (Wd S L F10 G h7)) _
  obtain ⟨g11, H⟩ := H
  obtain ⟨g12, H⟩ := H
  by_cases c13 : v5 = v9
  · rw [if_pos c13] at H
    refine pt201 (s' := (18, [some (vr 9999), some (vr 0), some (vr 297), some (vi (x3 + 6))], [], (Wd S L F10 G h7))) (by decide) [1, 0, 0] rfl ⟨trivial, ⟨⟨g11, g12⟩, c13⟩⟩ ?_
    exact wp.weak (a := [some (vr 9999), some (vr 0), some (vr 297), some (vi (x3 + 6))]) ⟨rfl, rfl, rfl, rfl, trivial⟩ H
  · rw [if_neg c13] at H
    refine pt201 (s' := (350, [some (vr 9999), some (vr 0), some (vr 297), some (vi x3)], [vi 0], (Wd S L F10 G h7))) (by decide) [0, 0] rfl ⟨trivial, ⟨⟨g11, g12⟩, c13⟩⟩ ?_
    exact wp.fin (v := some (vi 0)) (by decide) am_m201 rfl ⟨_, rfl, Or.inr ⟨rfl, Or.inl rfl⟩, rfl⟩ H
set_option maxRecDepth 100000 in
set_option maxHeartbeats 4000000 in
theorem T201_351 {S L : Nat} {F G : Nat → Nat → Int} {h : Nat → Nat → Option Nat} (hh : RfH h) {x3 : Int}  {Q : Option V2 → W2 → Prop}
    (H : (R32 (x3 + 1) ∧
 (0 ≤ (x3 + 1) ∧ (x3 + 1) < (L : Int)) ∧
 C71_0 (F 9999 (x3 + 1).toNat) (Wd S L F G h) (fun v w1 => ∃ (v3 : Int) (F4 : Nat → Nat → Int) (h5 : Nat → Nat → Option Nat), v = some (vi v3) ∧ w1 = (Wd S L F4 G h5) ∧ RfH h5 ∧
  C169_0 (F4 9999 (x3 + 1).toNat) (Wd S L F4 G h5) (fun v w1 => ∃ (v7 : Int) (F8 : Nat → Nat → Int), v = some (vi v7) ∧ w1 = (Wd S L F8 G h5) ∧
   (R32 v3 ∧
   R32 v7 ∧
   (if v3 = v7 then
    C201_18 (x3 + 6) (Wd S L F8 G h5) Q
   else
    Q (some (vi 0)) (Wd S L F8 G h5))))))) : C201_351 x3 (Wd S L F G h) Q := by
  obtain ⟨g1, H⟩ := H
  obtain ⟨g2, H⟩ := H
  refine pt201 (s' := (357, [some (vr 9999), some (vr 0), some (vr 297), some (vi x3)], [vi (F 9999 (x3 + 1).toNat), vr 0], (Wd S L F G h))) (by decide) [0, 0, 0, 0, 0, 1] rfl ⟨trivial, ⟨rfl, g1, g2.1, g2.2⟩⟩ ?_
  refine wp.cl am_m201 rfl am_m71 9 [vr 0, vi (F 9999 (x3 + 1).toNat)] [] rfl (Nat.le_of_ble_eq_true rfl) (Nat.le_of_ble_eq_true rfl) rfl (Nat.le_of_ble_eq_true rfl) rfl (Nat.le_of_ble_eq_true rfl) (Nat.le_of_ble_eq_true rfl) ⟨_, _, rfl, Nat.le_of_ble_eq_true rfl, rfl⟩ ?_
  refine wp.mono H ?_
  rintro v w1 ⟨v3, F4, h5, rfl, rfl, r6, H⟩
  show wp 12 201 (360, [some (vr 9999), some (vr 0), some (vr 297), some (vi x3)], [vi v3], (Wd S L F4 G h5)) _
  refine pt201 (s' := (366, [some (vr 9999), some (vr 0), some (vr 297), some (vi x3)], [vi (F4 9999 (x3 + 1).toNat), vr 297, vi v3], (Wd S L F4 G h5))) (by decide) [0, 0, 0, 0, 0, 1] rfl ⟨trivial, ⟨rfl, g1, g2.1, g2.2⟩⟩ ?_
  refine wp.cl am_m201 rfl am_m169 8 [vr 297, vi (F4 9999 (x3 + 1).toNat)] [vi v3] rfl (Nat.le_of_ble_eq_true rfl) (Nat.le_of_ble_eq_true rfl) rfl (Nat.le_of_ble_eq_true rfl) rfl (Nat.le_of_ble_eq_true rfl) (Nat.le_of_ble_eq_true rfl) ⟨_, _, rfl, Nat.le_of_ble_eq_true rfl, rfl⟩ ?_
  refine wp.mono H ?_
  rintro v w1 ⟨v7, F8, rfl, rfl, H⟩
  show wp 12 201 (369, [some (vr 9999), some (vr 0), some (vr 297), some (vi x3)], [vi v7, vi v3], (Wd S L F8 G h5)) _
  obtain ⟨g9, H⟩ := H
  obtain ⟨g10, H⟩ := H
  by_cases c11 : v3 = v7
  · rw [if_pos c11] at H
    refine pt201 (s' := (18, [some (vr 9999), some (vr 0), some (vr 297), some (vi (x3 + 6))], [], (Wd S L F8 G h5))) (by decide) [1, 0, 0] rfl ⟨trivial, ⟨⟨g9, g10⟩, c11⟩⟩ ?_
    exact wp.weak (a := [some (vr 9999), some (vr 0), some (vr 297), some (vi (x3 + 6))]) ⟨rfl, rfl, rfl, rfl, trivial⟩ H
  · rw [if_neg c11] at H
    refine pt201 (s' := (373, [some (vr 9999), some (vr 0), some (vr 297), some (vi x3)], [vi 0], (Wd S L F8 G h5))) (by decide) [0, 0] rfl ⟨trivial, ⟨⟨g9, g10⟩, c11⟩⟩ ?_
    exact wp.fin (v := some (vi 0)) (by decide) am_m201 rfl ⟨_, rfl, Or.inr ⟨rfl, Or.inl rfl⟩, rfl⟩ H
set_option maxRecDepth 100000 in
set_option maxHeartbeats 4000000 in
theorem T201_374 {S L : Nat} {F G : Nat → Nat → Int} {h : Nat → Nat → Option Nat} (hh : RfH h) {x3 : Int}  {Q : Option V2 → W2 → Prop}
    (H : (R32 (x3 + 1) ∧
 (0 ≤ (x3 + 1) ∧ (x3 + 1) < (L : Int)) ∧
 R32 (x3 + 2) ∧
 (0 ≤ (x3 + 2) ∧ (x3 + 2) < (L : Int)) ∧
 C72_0 (F 9999 (x3 + 1).toNat) (F 9999 (x3 + 2).toNat) (Wd S L F G h) (fun v w1 => ∃ (v5 : Int), v = some (vi v5) ∧ w1 = (Wd S L F G h) ∧
  C125_0 (F 9999 (x3 + 1).toNat) (F 9999 (x3 + 2).toNat) (Wd S L F G h) (fun v w1 => ∃ (v6 : Int), v = some (vi v6) ∧ w1 = (Wd S L F G h) ∧
   (R32 v5 ∧
   R32 v6 ∧
   (if v5 = v6 then
    C201_18 (x3 + 6) (Wd S L F G h) Q
   else
    Q (some (vi 0)) (Wd S L F G h))))))) : C201_374 x3 (Wd S L F G h) Q := by
  obtain ⟨g1, H⟩ := H
  obtain ⟨g2, H⟩ := H
  obtain ⟨g3, H⟩ := H
  obtain ⟨g4, H⟩ := H
  refine pt201 (s' := (385, [some (vr 9999), some (vr 0), some (vr 297), some (vi x3)], [vi (F 9999 (x3 + 2).toNat), vi (F 9999 (x3 + 1).toNat), vr 0], (Wd S L F G h))) (by decide) [0, 0, 0, 0, 0, 1, 0, 0, 0, 0, 1] rfl ⟨⟨trivial, ⟨rfl, g1, g2.1, g2.2⟩⟩, ⟨rfl, g3, g4.1, g4.2⟩⟩ ?_
  refine wp.cl am_m201 rfl am_m72 7 [vr 0, vi (F 9999 (x3 + 1).toNat), vi (F 9999 (x3 + 2).toNat)] [] rfl (Nat.le_of_ble_eq_true rfl) (Nat.le_of_ble_eq_true rfl) rfl (Nat.le_of_ble_eq_true rfl) rfl (Nat.le_of_ble_eq_true rfl) (Nat.le_of_ble_eq_true rfl) ⟨_, _, rfl, Nat.le_of_ble_eq_true rfl, rfl⟩ ?_
  refine wp.mono H ?_
  rintro v w1 ⟨v5, rfl, rfl, H⟩
  show wp 12 201 (388, [some (vr 9999), some (vr 0), some (vr 297), some (vi x3)], [vi v5], (Wd S L F G h)) _
  refine pt201 (s' := (399, [some (vr 9999), some (vr 0), some (vr 297), some (vi x3)], [vi (F 9999 (x3 + 2).toNat), vi (F 9999 (x3 + 1).toNat), vr 297, vi v5], (Wd S L F G h))) (by decide) [0, 0, 0, 0, 0, 1, 0, 0, 0, 0, 1] rfl ⟨⟨trivial, ⟨rfl, g1, g2.1, g2.2⟩⟩, ⟨rfl, g3, g4.1, g4.2⟩⟩ ?_
  refine wp.cl am_m201 rfl am_m125 7 [vr 297, vi (F 9999 (x3 + 1).toNat), vi (F 9999 (x3 + 2).toNat)] [vi v5] rfl (Nat.le_of_ble_eq_true rfl) (Nat.le_of_ble_eq_true rfl) rfl (Nat.le_of_ble_eq_true rfl) rfl (Nat.le_of_ble_eq_true rfl) (Nat.le_of_ble_eq_true rfl) ⟨_, _, rfl, Nat.le_of_ble_eq_true rfl, rfl⟩ ?_
  refine wp.mono H ?_
  rintro v w1 ⟨v6, rfl, rfl, H⟩
  show wp 12 201 (402, [some (vr 9999), some (vr 0), some (vr 297), some (vi x3)], [vi v6, vi v5], (Wd S L F G h)) _
  obtain ⟨g7, H⟩ := H
  obtain ⟨g8, H⟩ := H
  by_cases c9 : v5 = v6
  · rw [if_pos c9] at H
    refine pt201 (s' := (18, [some (vr 9999), some (vr 0), some (vr 297), some (vi (x3 + 6))], [], (Wd S L F G h))) (by decide) [1, 0, 0] rfl ⟨trivial, ⟨⟨g7, g8⟩, c9⟩⟩ ?_
    exact wp.weak (a := [some (vr 9999), some (vr 0), some (vr 297), some (vi (x3 + 6))]) ⟨rfl, rfl, rfl, rfl, trivial⟩ H
  · rw [if_neg c9] at H
    refine pt201 (s' := (406, [some (vr 9999), some (vr 0), some (vr 297), some (vi x3)], [vi 0], (Wd S L F G h))) (by decide) [0, 0] rfl ⟨trivial, ⟨⟨g7, g8⟩, c9⟩⟩ ?_
    exact wp.fin (v := some (vi 0)) (by decide) am_m201 rfl ⟨_, rfl, Or.inr ⟨rfl, Or.inl rfl⟩, rfl⟩ H
set_option maxRecDepth 100000 in
set_option maxHeartbeats 4000000 in
theorem T201_407 {S L : Nat} {F G : Nat → Nat → Int} {h : Nat → Nat → Option Nat} (hh : RfH h) {x3 : Int}  {Q : Option V2 → W2 → Prop}
    (H : (R32 (x3 + 1) ∧
 (0 ≤ (x3 + 1) ∧ (x3 + 1) < (L : Int)) ∧
 R32 (x3 + 2) ∧
 (0 ≤ (x3 + 2) ∧ (x3 + 2) < (L : Int)) ∧
 C73_0 (F 9999 (x3 + 1).toNat) (F 9999 (x3 + 2).toNat) (Wd S L F G h) (fun v w1 => ∃ (v5 : Int) (F6 : Nat → Nat → Int), v = some (vi v5) ∧ w1 = (Wd S L F6 G h) ∧
  C126_0 (F6 9999 (x3 + 1).toNat) (F6 9999 (x3 + 2).toNat) (Wd S L F6 G h) (fun v w1 => ∃ (v7 : Int) (F8 : Nat → Nat → Int), v = some (vi v7) ∧ w1 = (Wd S L F8 G h) ∧
   (R32 v5 ∧
   R32 v7 ∧
   (if v5 = v7 then
    C201_18 (x3 + 6) (Wd S L F8 G h) Q
   else
    Q (some (vi 0)) (Wd S L F8 G h))))))) : C201_407 x3 (Wd S L F G h) Q := by
  obtain ⟨g1, H⟩ := H
  obtain ⟨g2, H⟩ := H
  obtain ⟨g3, H⟩ := H
  obtain ⟨g4, H⟩ := H
  refine pt201 (s' := (418, [some (vr 9999), some (vr 0), some (vr 297), some (vi x3)], [vi (F 9999 (x3 + 2).toNat), vi (F 9999 (x3 + 1).toNat), vr 0], (Wd S L F G h))) (by decide) [0, 0, 0, 0, 0, 1, 0, 0, 0, 0, 1] rfl ⟨⟨trivial, ⟨rfl, g1, g2.1, g2.2⟩⟩, ⟨rfl, g3, g4.1, g4.2⟩⟩ ?_
  refine wp.cl am_m201 rfl am_m73 11 [vr 0, vi (F 9999 (x3 + 1).toNat), vi (F 9999 (x3 + 2).toNat)] [] rfl (Nat.le_of_ble_eq_true rfl) (Nat.le_of_ble_eq_true rfl) rfl (Nat.le_of_ble_eq_true rfl) rfl (Nat.le_of_ble_eq_true rfl) (Nat.le_of_ble_eq_true rfl) ⟨_, _, rfl, Nat.le_of_ble_eq_true rfl, rfl⟩ ?_
  refine wp.mono H ?_
  rintro v w1 ⟨v5, F6, rfl, rfl, H⟩
  show wp 12 201 (421, [some (vr 9999), some (vr 0), some (vr 297), some (vi x3)], [vi v5], (Wd S L F6 G h)) _
  refine pt201 (s' := (432, [some (vr 9999), some (vr 0), some (vr 297), some (vi x3)], [vi (F6 9999 (x3 + 2).toNat), vi (F6 9999 (x3 + 1).toNat), vr 297, vi v5], (Wd S L F6 G h))) (by decide) [0, 0, 0, 0, 0, 1, 0, 0, 0, 0, 1] rfl ⟨⟨trivial, ⟨rfl, g1, g2.1, g2.2⟩⟩, ⟨rfl, g3, g4.1, g4.2⟩⟩ ?_
  refine wp.cl am_m201 rfl am_m126 9 [vr 297, vi (F6 9999 (x3 + 1).toNat), vi (F6 9999 (x3 + 2).toNat)] [vi v5] rfl (Nat.le_of_ble_eq_true rfl) (Nat.le_of_ble_eq_true rfl) rfl (Nat.le_of_ble_eq_true rfl) rfl (Nat.le_of_ble_eq_true rfl) (Nat.le_of_ble_eq_true rfl) ⟨_, _, rfl, Nat.le_of_ble_eq_true rfl, rfl⟩ ?_
  refine wp.mono H ?_
  rintro v w1 ⟨v7, F8, rfl, rfl, H⟩
  show wp 12 201 (435, [some (vr 9999), some (vr 0), some (vr 297), some (vi x3)], [vi v7, vi v5], (Wd S L F8 G h)) _
  obtain ⟨g9, H⟩ := H
  obtain ⟨g10, H⟩ := H
  by_cases c11 : v5 = v7
  · rw [if_pos c11] at H
    refine pt201 (s' := (18, [some (vr 9999), some (vr 0), some (vr 297), some (vi (x3 + 6))], [], (Wd S L F8 G h))) (by decide) [1, 0, 0] rfl ⟨trivial, ⟨⟨g9, g10⟩, c11⟩⟩ ?_
    exact wp.weak (a := [some (vr 9999), some (vr 0), some (vr 297), some (vi (x3 + 6))]) ⟨rfl, rfl, rfl, rfl, trivial⟩ H
  · rw [if_neg c11] at H
    refine pt201 (s' := (439, [some (vr 9999), some (vr 0), some (vr 297), some (vi x3)], [vi 0], (Wd S L F8 G h))) (by decide) [0, 0] rfl ⟨trivial, ⟨⟨g9, g10⟩, c11⟩⟩ ?_
    exact wp.fin (v := some (vi 0)) (by decide) am_m201 rfl ⟨_, rfl, Or.inr ⟨rfl, Or.inl rfl⟩, rfl⟩ H
set_option maxRecDepth 100000 in
set_option maxHeartbeats 4000000 in
theorem T201_440 {S L : Nat} {F G : Nat → Nat → Int} {h : Nat → Nat → Option Nat} (hh : RfH h) {x3 : Int}  {Q : Option V2 → W2 → Prop}
    (H : (R32 (x3 + 1) ∧
 (0 ≤ (x3 + 1) ∧ (x3 + 1) < (L : Int)) ∧
 R32 (x3 + 2) ∧
 (0 ≤ (x3 + 2) ∧ (x3 + 2) < (L : Int)) ∧
 C74_0 (F 9999 (x3 + 1).toNat) (F 9999 (x3 + 2).toNat) (Wd S L F G h) (fun v w1 => ∃ (v5 : Int) (F6 : Nat → Nat → Int), v = some (vi v5) ∧ w1 = (Wd S L F6 G h) ∧
  C127_0 (F6 9999 (x3 + 1).toNat) (F6 9999 (x3 + 2).toNat) (Wd S L F6 G h) (fun v w1 => ∃ (v7 : Int) (F8 : Nat → Nat → Int), v = some (vi v7) ∧ w1 = (Wd S L F8 G h) ∧
   (R32 v5 ∧
   R32 v7 ∧
   (if v5 = v7 then
    C201_18 (x3 + 6) (Wd S L F8 G h) Q
   else
    Q (some (vi 0)) (Wd S L F8 G h))))))) : C201_440 x3 (Wd S L F G h) Q := by
  obtain ⟨g1, H⟩ := H
  obtain ⟨g2, H⟩ := H
  obtain ⟨g3, H⟩ := H
  obtain ⟨g4, H⟩ := H
  refine pt201 (s' := (451, [some (vr 9999), some (vr 0), some (vr 297), some (vi x3)], [vi (F 9999 (x3 + 2).toNat), vi (F 9999 (x3 + 1).toNat), vr 0], (Wd S L F G h))) (by decide) [0, 0, 0, 0, 0, 1, 0, 0, 0, 0, 1] rfl ⟨⟨trivial, ⟨rfl, g1, g2.1, g2.2⟩⟩, ⟨rfl, g3, g4.1, g4.2⟩⟩ ?_
  refine wp.cl am_m201 rfl am_m74 11 [vr 0, vi (F 9999 (x3 + 1).toNat), vi (F 9999 (x3 + 2).toNat)] [] rfl (Nat.le_of_ble_eq_true rfl) (Nat.le_of_ble_eq_true rfl) rfl (Nat.le_of_ble_eq_true rfl) rfl (Nat.le_of_ble_eq_true rfl) (Nat.le_of_ble_eq_true rfl) ⟨_, _, rfl, Nat.le_of_ble_eq_true rfl, rfl⟩ ?_
  refine wp.mono H ?_
  rintro v w1 ⟨v5, F6, rfl, rfl, H⟩
  show wp 12 201 (454, [some (vr 9999), some (vr 0), some (vr 297), some (vi x3)], [vi v5], (Wd S L F6 G h)) _
  refine pt201 (s' := (465, [some (vr 9999), some (vr 0), some (vr 297), some (vi x3)], [vi (F6 9999 (x3 + 2).toNat), vi (F6 9999 (x3 + 1).toNat), vr 297, vi v5], (Wd S L F6 G h))) (by decide) [0, 0, 0, 0, 0, 1, 0, 0, 0, 0, 1] rfl ⟨⟨trivial, ⟨rfl, g1, g2.1, g2.2⟩⟩, ⟨rfl, g3, g4.1, g4.2⟩⟩ ?_
  refine wp.cl am_m201 rfl am_m127 9 [vr 297, vi (F6 9999 (x3 + 1).toNat), vi (F6 9999 (x3 + 2).toNat)] [vi v5] rfl (Nat.le_of_ble_eq_true rfl) (Nat.le_of_ble_eq_true rfl) rfl (Nat.le_of_ble_eq_true rfl) rfl (Nat.le_of_ble_eq_true rfl) (Nat.le_of_ble_eq_true rfl) ⟨_, _, rfl, Nat.le_of_ble_eq_true rfl, rfl⟩ ?_
  refine wp.mono H ?_
  rintro v w1 ⟨v7, F8, rfl, rfl, H⟩
  show wp 12 201 (468, [some (vr 9999), some (vr 0), some (vr 297), some (vi x3)], [vi v7, vi v5], (Wd S L F8 G h)) _
  obtain ⟨g9, H⟩ := H
  obtain ⟨g10, H⟩ := H
  by_cases c11 : v5 = v7
  · rw [if_pos c11] at H
    refine pt201 (s' := (18, [some (vr 9999), some (vr 0), some (vr 297), some (vi (x3 + 6))], [], (Wd S L F8 G h))) (by decide) [1, 0, 0] rfl ⟨trivial, ⟨⟨g9, g10⟩, c11⟩⟩ ?_
    exact wp.weak (a := [some (vr 9999), some (vr 0), some (vr 297), some (vi (x3 + 6))]) ⟨rfl, rfl, rfl, rfl, trivial⟩ H
  · rw [if_neg c11] at H
    refine pt201 (s' := (472, [some (vr 9999), some (vr 0), some (vr 297), some (vi x3)], [vi 0], (Wd S L F8 G h))) (by decide) [0, 0] rfl ⟨trivial, ⟨⟨g9, g10⟩, c11⟩⟩ ?_
    exact wp.fin (v := some (vi 0)) (by decide) am_m201 rfl ⟨_, rfl, Or.inr ⟨rfl, Or.inl rfl⟩, rfl⟩ H
set_option maxRecDepth 100000 in
set_option maxHeartbeats 4000000 in
theorem T201_473 {S L : Nat} {F G : Nat → Nat → Int} {h : Nat → Nat → Option Nat} (hh : RfH h) {x3 : Int}  {Q : Option V2 → W2 → Prop}
    (H : (R32 (x3 + 1) ∧
 (0 ≤ (x3 + 1) ∧ (x3 + 1) < (L : Int)) ∧
 C75_0 (F 9999 (x3 + 1).toNat) (Wd S L F G h) (fun v w1 => ∃ (v3 : Int) (F4 : Nat → Nat → Int), v = some (vi v3) ∧ w1 = (Wd S L F4 G h) ∧
  C130_0 (F4 9999 (x3 + 1).toNat) (Wd S L F4 G h) (fun v w1 => ∃ (v5 : Int) (F6 : Nat → Nat → Int), v = some (vi v5) ∧ w1 = (Wd S L F6 G h) ∧
   (R32 v3 ∧
   R32 v5 ∧
   (if v3 = v5 then
    C201_18 (x3 + 6) (Wd S L F6 G h) Q
   else
    Q (some (vi 0)) (Wd S L F6 G h))))))) : C201_473 x3 (Wd S L F G h) Q := by
  obtain ⟨g1, H⟩ := H
  obtain ⟨g2, H⟩ := H
  refine pt201 (s' := (479, [some (vr 9999), some (vr 0), some (vr 297), some (vi x3)], [vi (F 9999 (x3 + 1).toNat), vr 0], (Wd S L F G h))) (by decide) [0, 0, 0, 0, 0, 1] rfl ⟨trivial, ⟨rfl, g1, g2.1, g2.2⟩⟩ ?_
  refine wp.cl am_m201 rfl am_m75 11 [vr 0, vi (F 9999 (x3 + 1).toNat)] [] rfl (Nat.le_of_ble_eq_true rfl) (Nat.le_of_ble_eq_true rfl) rfl (Nat.le_of_ble_eq_true rfl) rfl (Nat.le_of_ble_eq_true rfl) (Nat.le_of_ble_eq_true rfl) ⟨_, _, rfl, Nat.le_of_ble_eq_true rfl, rfl⟩ ?_
  refine wp.mono H ?_
  rintro v w1 ⟨v3, F4, rfl, rfl, H⟩
  show wp 12 201 (482, [some (vr 9999), some (vr 0), some (vr 297), some (vi x3)], [vi v3], (Wd S L F4 G h)) _
  refine pt201 (s' := (488, [some (vr 9999), some (vr 0), some (vr 297), some (vi x3)], [vi (F4 9999 (x3 + 1).toNat), vr 297, vi v3], (Wd S L F4 G h))) (by decide) [0, 0, 0, 0, 0, 1] rfl ⟨trivial, ⟨rfl, g1, g2.1, g2.2⟩⟩ ?_
  refine wp.cl am_m201 rfl am_m130 10 [vr 297, vi (F4 9999 (x3 + 1).toNat)] [vi v3] rfl (Nat.le_of_ble_eq_true rfl) (Nat.le_of_ble_eq_true rfl) rfl (Nat.le_of_ble_eq_true rfl) rfl (Nat.le_of_ble_eq_true rfl) (Nat.le_of_ble_eq_true rfl) ⟨_, _, rfl, Nat.le_of_ble_eq_true rfl, rfl⟩ ?_
  refine wp.mono H ?_
  rintro v w1 ⟨v5, F6, rfl, rfl, H⟩
  show wp 12 201 (491, [some (vr 9999), some (vr 0), some (vr 297), some (vi x3)], [vi v5, vi v3], (Wd S L F6 G h)) _
  obtain ⟨g7, H⟩ := H
  obtain ⟨g8, H⟩ := H
  by_cases c9 : v3 = v5
  · rw [if_pos c9] at H
    refine pt201 (s' := (18, [some (vr 9999), some (vr 0), some (vr 297), some (vi (x3 + 6))], [], (Wd S L F6 G h))) (by decide) [1, 0, 0] rfl ⟨trivial, ⟨⟨g7, g8⟩, c9⟩⟩ ?_
    exact wp.weak (a := [some (vr 9999), some (vr 0), some (vr 297), some (vi (x3 + 6))]) ⟨rfl, rfl, rfl, rfl, trivial⟩ H
  · rw [if_neg c9] at H
    refine pt201 (s' := (495, [some (vr 9999), some (vr 0), some (vr 297), some (vi x3)], [vi 0], (Wd S L F6 G h))) (by decide) [0, 0] rfl ⟨trivial, ⟨⟨g7, g8⟩, c9⟩⟩ ?_
    exact wp.fin (v := some (vi 0)) (by decide) am_m201 rfl ⟨_, rfl, Or.inr ⟨rfl, Or.inl rfl⟩, rfl⟩ H
set_option maxRecDepth 100000 in
set_option maxHeartbeats 4000000 in
theorem T201_496 {S L : Nat} {F G : Nat → Nat → Int} {h : Nat → Nat → Option Nat} (hh : RfH h) {x3 : Int}  {Q : Option V2 → W2 → Prop}
    (H : (R32 (x3 + 1) ∧
 (0 ≤ (x3 + 1) ∧ (x3 + 1) < (L : Int)) ∧
 R32 (x3 + 2) ∧
 (0 ≤ (x3 + 2) ∧ (x3 + 2) < (L : Int)) ∧
 R32 (x3 + 3) ∧
 (0 ≤ (x3 + 3) ∧ (x3 + 3) < (L : Int)) ∧
 C76_0 (F 9999 (x3 + 1).toNat) (F 9999 (x3 + 2).toNat) (F 9999 (x3 + 3).toNat) (Wd S L F G h) (fun v w1 => ∃ (v7 : Int), v = some (vi v7) ∧ w1 = (Wd S L F G h) ∧
  C134_0 (F 9999 (x3 + 1).toNat) (F 9999 (x3 + 2).toNat) (F 9999 (x3 + 3).toNat) (Wd S L F G h) (fun v w1 => ∃ (v8 : Int) (F9 : Nat → Nat → Int), v = some (vi v8) ∧ w1 = (Wd S L F9 G h) ∧
   (R32 v7 ∧
   R32 v8 ∧
   (if v7 = v8 then
    C201_18 (x3 + 6) (Wd S L F9 G h) Q
   else
    Q (some (vi 0)) (Wd S L F9 G h))))))) : C201_496 x3 (Wd S L F G h) Q := by
  obtain ⟨g1, H⟩ := H
  obtain ⟨g2, H⟩ := H
  obtain ⟨g3, H⟩ := H
  obtain ⟨g4, H⟩ := H
  obtain ⟨g5, H⟩ := H
  obtain ⟨g6, H⟩ := H
  refine pt201 (s' := (512, [some (vr 9999), some (vr 0), some (vr 297), some (vi x3)], [vi (F 9999 (x3 + 3).toNat), vi (F 9999 (x3 + 2).toNat), vi (F 9999 (x3 + 1).toNat), vr 0], (Wd S L F G h))) (by decide) [0, 0, 0, 0, 0, 1, 0, 0, 0, 0, 1, 0, 0, 0, 0, 1] rfl ⟨⟨⟨trivial, ⟨rfl, g1, g2.1, g2.2⟩⟩, ⟨rfl, g3, g4.1, g4.2⟩⟩, ⟨rfl, g5, g6.1, g6.2⟩⟩ ?_
  refine wp.cl am_m201 rfl am_m76 8 [vr 0, vi (F 9999 (x3 + 1).toNat), vi (F 9999 (x3 + 2).toNat), vi (F 9999 (x3 + 3).toNat)] [] rfl (Nat.le_of_ble_eq_true rfl) (Nat.le_of_ble_eq_true rfl) rfl (Nat.le_of_ble_eq_true rfl) rfl (Nat.le_of_ble_eq_true rfl) (Nat.le_of_ble_eq_true rfl) ⟨_, _, rfl, Nat.le_of_ble_eq_true rfl, rfl⟩ ?_
  refine wp.mono H ?_
  rintro v w1 ⟨v7, rfl, rfl, H⟩
  show wp 12 201 (515, [some (vr 9999), some (vr 0), some (vr 297), some (vi x3)], [vi v7], (Wd S L F G h)) _
  refine pt201 (s' := (531, [some (vr 9999), some (vr 0), some (vr 297), some (vi x3)], [vi (F 9999 (x3 + 3).toNat), vi (F 9999 (x3 + 2).toNat), vi (F 9999 (x3 + 1).toNat), vr 297, vi v7], (Wd S L F G h))) (by decide) [0, 0, 0, 0, 0, 1, 0, 0, 0, 0, 1, 0, 0, 0, 0, 1] rfl ⟨⟨⟨trivial, ⟨rfl, g1, g2.1, g2.2⟩⟩, ⟨rfl, g3, g4.1, g4.2⟩⟩, ⟨rfl, g5, g6.1, g6.2⟩⟩ ?_
  refine wp.cl am_m201 rfl am_m134 9 [vr 297, vi (F 9999 (x3 + 1).toNat), vi (F 9999 (x3 + 2).toNat), vi (F 9999 (x3 + 3).toNat)] [vi v7] rfl (Nat.le_of_ble_eq_true rfl) (Nat.le_of_ble_eq_true rfl) rfl (Nat.le_of_ble_eq_true rfl) rfl (Nat.le_of_ble_eq_true rfl) (Nat.le_of_ble_eq_true rfl) ⟨_, _, rfl, Nat.le_of_ble_eq_true rfl, rfl⟩ ?_
  refine wp.mono H ?_
  rintro v w1 ⟨v8, F9, rfl, rfl, H⟩
  show wp 12 201 (534, [some (vr 9999), some (vr 0), some (vr 297), some (vi x3)], [vi v8, vi v7], (Wd S L F9 G h)) _
  obtain ⟨g10, H⟩ := H
  obtain ⟨g11, H⟩ := H
  by_cases c12 : v7 = v8
  · rw [if_pos c12] at H
    refine pt201 (s' := (18, [some (vr 9999), some (vr 0), some (vr 297), some (vi (x3 + 6))], [], (Wd S L F9 G h))) (by decide) [1, 0, 0] rfl ⟨trivial, ⟨⟨g10, g11⟩, c12⟩⟩ ?_
    exact wp.weak (a := [some (vr 9999), some (vr 0), some (vr 297), some (vi (x3 + 6))]) ⟨rfl, rfl, rfl, rfl, trivial⟩ H
  · rw [if_neg c12] at H
    refine pt201 (s' := (538, [some (vr 9999), some (vr 0), some (vr 297), some (vi x3)], [vi 0], (Wd S L F9 G h))) (by decide) [0, 0] rfl ⟨trivial, ⟨⟨g10, g11⟩, c12⟩⟩ ?_
    exact wp.fin (v := some (vi 0)) (by decide) am_m201 rfl ⟨_, rfl, Or.inr ⟨rfl, Or.inl rfl⟩, rfl⟩ H
set_option maxRecDepth 100000 in
set_option maxHeartbeats 4000000 in
theorem T201_539 {S L : Nat} {F G : Nat → Nat → Int} {h : Nat → Nat → Option Nat} (hh : RfH h) {x3 : Int}  {Q : Option V2 → W2 → Prop}
    (H : (R32 (x3 + 1) ∧
 (0 ≤ (x3 + 1) ∧ (x3 + 1) < (L : Int)) ∧
 R32 (x3 + 2) ∧
 (0 ≤ (x3 + 2) ∧ (x3 + 2) < (L : Int)) ∧
 R32 (x3 + 3) ∧
 (0 ≤ (x3 + 3) ∧ (x3 + 3) < (L : Int)) ∧
 C77_0 (F 9999 (x3 + 1).toNat) (F 9999 (x3 + 2).toNat) (F 9999 (x3 + 3).toNat) (Wd S L F G h) (fun v w1 => ∃ (v7 : Int) (F8 : Nat → Nat → Int) (G9 : Nat → Nat → Int), v = some (vj v7) ∧ w1 = (Wd S L F8 G9 h) ∧
  C137_0 (F8 9999 (x3 + 1).toNat) (F8 9999 (x3 + 2).toNat) (F8 9999 (x3 + 3).toNat) (Wd S L F8 G9 h) (fun v w1 => ∃ (v10 : Int) (F11 : Nat → Nat → Int) (G12 : Nat → Nat → Int), v = some (vj v10) ∧ w1 = (Wd S L F11 G12 h) ∧
   (R64 v7 ∧
   R64 v10 ∧
   (if v7 = v10 then
    C201_18 (x3 + 6) (Wd S L F11 G12 h) Q
   else
    Q (some (vi 0)) (Wd S L F11 G12 h))))))) : C201_539 x3 (Wd S L F G h) Q := by
  obtain ⟨g1, H⟩ := H
  obtain ⟨g2, H⟩ := H
  obtain ⟨g3, H⟩ := H
  obtain ⟨g4, H⟩ := H
  obtain ⟨g5, H⟩ := H
  obtain ⟨g6, H⟩ := H
  refine pt201 (s' := (555, [some (vr 9999), some (vr 0), some (vr 297), some (vi x3)], [vi (F 9999 (x3 + 3).toNat), vi (F 9999 (x3 + 2).toNat), vi (F 9999 (x3 + 1).toNat), vr 0], (Wd S L F G h))) (by decide) [0, 0, 0, 0, 0, 1, 0, 0, 0, 0, 1, 0, 0, 0, 0, 1] rfl ⟨⟨⟨trivial, ⟨rfl, g1, g2.1, g2.2⟩⟩, ⟨rfl, g3, g4.1, g4.2⟩⟩, ⟨rfl, g5, g6.1, g6.2⟩⟩ ?_
  refine wp.cl am_m201 rfl am_m77 11 [vr 0, vi (F 9999 (x3 + 1).toNat), vi (F 9999 (x3 + 2).toNat), vi (F 9999 (x3 + 3).toNat)] [] rfl (Nat.le_of_ble_eq_true rfl) (Nat.le_of_ble_eq_true rfl) rfl (Nat.le_of_ble_eq_true rfl) rfl (Nat.le_of_ble_eq_true rfl) (Nat.le_of_ble_eq_true rfl) ⟨_, _, rfl, Nat.le_of_ble_eq_true rfl, rfl⟩ ?_
  refine wp.mono H ?_
  rintro v w1 ⟨v7, F8, G9, rfl, rfl, H⟩
  show wp 12 201 (558, [some (vr 9999), some (vr 0), some (vr 297), some (vi x3)], [vj v7], (Wd S L F8 G9 h)) _
  refine pt201 (s' := (574, [some (vr 9999), some (vr 0), some (vr 297), some (vi x3)], [vi (F8 9999 (x3 + 3).toNat), vi (F8 9999 (x3 + 2).toNat), vi (F8 9999 (x3 + 1).toNat), vr 297, vj v7], (Wd S L F8 G9 h))) (by decide) [0, 0, 0, 0, 0, 1, 0, 0, 0, 0, 1, 0, 0, 0, 0, 1] rfl ⟨⟨⟨trivial, ⟨rfl, g1, g2.1, g2.2⟩⟩, ⟨rfl, g3, g4.1, g4.2⟩⟩, ⟨rfl, g5, g6.1, g6.2⟩⟩ ?_
  refine wp.cl am_m201 rfl am_m137 10 [vr 297, vi (F8 9999 (x3 + 1).toNat), vi (F8 9999 (x3 + 2).toNat), vi (F8 9999 (x3 + 3).toNat)] [vj v7] rfl (Nat.le_of_ble_eq_true rfl) (Nat.le_of_ble_eq_true rfl) rfl (Nat.le_of_ble_eq_true rfl) rfl (Nat.le_of_ble_eq_true rfl) (Nat.le_of_ble_eq_true rfl) ⟨_, _, rfl, Nat.le_of_ble_eq_true rfl, rfl⟩ ?_
  refine wp.mono H ?_
  rintro v w1 ⟨v10, F11, G12, rfl, rfl, H⟩
  show wp 12 201 (577, [some (vr 9999), some (vr 0), some (vr 297), some (vi x3)], [vj v10, vj v7], (Wd S L F11 G12 h)) _
  obtain ⟨g13, H⟩ := H
  obtain ⟨g14, H⟩ := H
  refine pt201 (s' := (578, [some (vr 9999), some (vr 0), some (vr 297), some (vi x3)], [vi (y_cmp v7 v10)], (Wd S L F11 G12 h))) (by decide) [0] rfl ⟨trivial, ⟨g13, g14⟩⟩ ?_
  by_cases c15 : v7 = v10
  · rw [if_pos c15] at H
    refine pt201 (s' := (18, [some (vr 9999), some (vr 0), some (vr 297), some (vi (x3 + 6))], [], (Wd S L F11 G12 h))) (by decide) [1, 0, 0] rfl ⟨trivial, ⟨y_cmp_r32, (y_cmp_eq.mpr c15)⟩⟩ ?_
    exact wp.weak (a := [some (vr 9999), some (vr 0), some (vr 297), some (vi (x3 + 6))]) ⟨rfl, rfl, rfl, rfl, trivial⟩ H
  · rw [if_neg c15] at H
    refine pt201 (s' := (582, [some (vr 9999), some (vr 0), some (vr 297), some (vi x3)], [vi 0], (Wd S L F11 G12 h))) (by decide) [0, 0] rfl ⟨trivial, ⟨y_cmp_r32, (fun e => c15 (y_cmp_eq.mp e))⟩⟩ ?_
    exact wp.fin (v := some (vi 0)) (by decide) am_m201 rfl ⟨_, rfl, Or.inr ⟨rfl, Or.inl rfl⟩, rfl⟩ H
set_option maxRecDepth 100000 in
set_option maxHeartbeats 4000000 in
theorem T201_583 {S L : Nat} {F G : Nat → Nat → Int} {h : Nat → Nat → Option Nat} (hh : RfH h) {x3 : Int}  {Q : Option V2 → W2 → Prop}
    (H : (R32 (x3 + 1) ∧
 (0 ≤ (x3 + 1) ∧ (x3 + 1) < (L : Int)) ∧
 R32 (x3 + 2) ∧
 (0 ≤ (x3 + 2) ∧ (x3 + 2) < (L : Int)) ∧
 C78_0 (F 9999 (x3 + 1).toNat) (F 9999 (x3 + 2).toNat) (Wd S L F G h) (fun v w1 => ∃ (v5 : Int) (F6 : Nat → Nat → Int) (G7 : Nat → Nat → Int), v = some (vj v5) ∧ w1 = (Wd S L F6 G7 h) ∧
  C139_0 (F6 9999 (x3 + 1).toNat) (F6 9999 (x3 + 2).toNat) (Wd S L F6 G7 h) (fun v w1 => ∃ (v8 : Int) (F9 : Nat → Nat → Int) (G10 : Nat → Nat → Int), v = some (vj v8) ∧ w1 = (Wd S L F9 G10 h) ∧
   (R64 v5 ∧
   R64 v8 ∧
   (if v5 = v8 then
    C201_18 (x3 + 6) (Wd S L F9 G10 h) Q
   else
    Q (some (vi 0)) (Wd S L F9 G10 h))))))) : C201_583 x3 (Wd S L F G h) Q := by
  obtain ⟨g1, H⟩ := H
  obtain ⟨g2, H⟩ := H
  obtain ⟨g3, H⟩ := H
  obtain ⟨g4, H⟩ := H
  refine pt201 (s' := (594, [some (vr 9999), some (vr 0), some (vr 297), some (vi x3)], [vi (F 9999 (x3 + 2).toNat), vi (F 9999 (x3 + 1).toNat), vr 0], (Wd S L F G h))) (by decide) [0, 0, 0, 0, 0, 1, 0, 0, 0, 0, 1] rfl ⟨⟨trivial, ⟨rfl, g1, g2.1, g2.2⟩⟩, ⟨rfl, g3, g4.1, g4.2⟩⟩ ?_
  refine wp.cl am_m201 rfl am_m78 11 [vr 0, vi (F 9999 (x3 + 1).toNat), vi (F 9999 (x3 + 2).toNat)] [] rfl (Nat.le_of_ble_eq_true rfl) (Nat.le_of_ble_eq_true rfl) rfl (Nat.le_of_ble_eq_true rfl) rfl (Nat.le_of_ble_eq_true rfl) (Nat.le_of_ble_eq_true rfl) ⟨_, _, rfl, Nat.le_of_ble_eq_true rfl, rfl⟩ ?_
  refine wp.mono H ?_
  rintro v w1 ⟨v5, F6, G7, rfl, rfl, H⟩
  show wp 12 201 (597, [some (vr 9999), some (vr 0), some (vr 297), some (vi x3)], [vj v5], (Wd S L F6 G7 h)) _
  refine pt201 (s' := (608, [some (vr 9999), some (vr 0), some (vr 297), some (vi x3)], [vi (F6 9999 (x3 + 2).toNat), vi (F6 9999 (x3 + 1).toNat), vr 297, vj v5], (Wd S L F6 G7 h))) (by decide) [0, 0, 0, 0, 0, 1, 0, 0, 0, 0, 1] rfl ⟨⟨trivial, ⟨rfl, g1, g2.1, g2.2⟩⟩, ⟨rfl, g3, g4.1, g4.2⟩⟩ ?_
  refine wp.cl am_m201 rfl am_m139 11 [vr 297, vi (F6 9999 (x3 + 1).toNat), vi (F6 9999 (x3 + 2).toNat)] [vj v5] rfl (Nat.le_of_ble_eq_true rfl) (Nat.le_of_ble_eq_true rfl) rfl (Nat.le_of_ble_eq_true rfl) rfl (Nat.le_of_ble_eq_true rfl) (Nat.le_of_ble_eq_true rfl) ⟨_, _, rfl, Nat.le_of_ble_eq_true rfl, rfl⟩ ?_
  refine wp.mono H ?_
  rintro v w1 ⟨v8, F9, G10, rfl, rfl, H⟩
  show wp 12 201 (611, [some (vr 9999), some (vr 0), some (vr 297), some (vi x3)], [vj v8, vj v5], (Wd S L F9 G10 h)) _
  obtain ⟨g11, H⟩ := H
  obtain ⟨g12, H⟩ := H
  refine pt201 (s' := (612, [some (vr 9999), some (vr 0), some (vr 297), some (vi x3)], [vi (y_cmp v5 v8)], (Wd S L F9 G10 h))) (by decide) [0] rfl ⟨trivial, ⟨g11, g12⟩⟩ ?_
  by_cases c13 : v5 = v8
  · rw [if_pos c13] at H
    refine pt201 (s' := (18, [some (vr 9999), some (vr 0), some (vr 297), some (vi (x3 + 6))], [], (Wd S L F9 G10 h))) (by decide) [1, 0, 0] rfl ⟨trivial, ⟨y_cmp_r32, (y_cmp_eq.mpr c13)⟩⟩ ?_
    exact wp.weak (a := [some (vr 9999), some (vr 0), some (vr 297), some (vi (x3 + 6))]) ⟨rfl, rfl, rfl, rfl, trivial⟩ H
  · rw [if_neg c13] at H
    refine pt201 (s' := (616, [some (vr 9999), some (vr 0), some (vr 297), some (vi x3)], [vi 0], (Wd S L F9 G10 h))) (by decide) [0, 0] rfl ⟨trivial, ⟨y_cmp_r32, (fun e => c13 (y_cmp_eq.mp e))⟩⟩ ?_
    exact wp.fin (v := some (vi 0)) (by decide) am_m201 rfl ⟨_, rfl, Or.inr ⟨rfl, Or.inl rfl⟩, rfl⟩ H
set_option maxRecDepth 100000 in
set_option maxHeartbeats 4000000 in
theorem T201_617 {S L : Nat} {F G : Nat → Nat → Int} {h : Nat → Nat → Option Nat} (hh : RfH h) {x3 : Int}  {Q : Option V2 → W2 → Prop}
    (H : (R32 (x3 + 1) ∧
 (0 ≤ (x3 + 1) ∧ (x3 + 1) < (L : Int)) ∧
 R32 (x3 + 2) ∧
 (0 ≤ (x3 + 2) ∧ (x3 + 2) < (L : Int)) ∧
 C79_0 (F 9999 (x3 + 1).toNat) (F 9999 (x3 + 2).toNat) (Wd S L F G h) (fun v w1 => ∃ (v5 : Int) (F6 : Nat → Nat → Int) (G7 : Nat → Nat → Int), v = some (vi v5) ∧ w1 = (Wd S L F6 G7 h) ∧
  C140_0 (F6 9999 (x3 + 1).toNat) (F6 9999 (x3 + 2).toNat) (Wd S L F6 G7 h) (fun v w1 => ∃ (v8 : Int) (F9 : Nat → Nat → Int) (G10 : Nat → Nat → Int), v = some (vi v8) ∧ w1 = (Wd S L F9 G10 h) ∧
   (R32 v5 ∧
   R32 v8 ∧
   (if v5 = v8 then
    C201_18 (x3 + 6) (Wd S L F9 G10 h) Q
   else
    Q (some (vi 0)) (Wd S L F9 G10 h))))))) : C201_617 x3 (Wd S L F G h) Q := by
  obtain ⟨g1, H⟩ := H
  obtain ⟨g2, H⟩ := H
  obtain ⟨g3, H⟩ := H
  obtain ⟨g4, H⟩ := H
  refine pt201 (s' := (628, [some (vr 9999), some (vr 0), some (vr 297), some (vi x3)], [vi (F 9999 (x3 + 2).toNat), vi (F 9999 (x3 + 1).toNat), vr 0], (Wd S L F G h))) (by decide) [0, 0, 0, 0, 0, 1, 0, 0, 0, 0, 1] rfl ⟨⟨trivial, ⟨rfl, g1, g2.1, g2.2⟩⟩, ⟨rfl, g3, g4.1, g4.2⟩⟩ ?_
  refine wp.cl am_m201 rfl am_m79 11 [vr 0, vi (F 9999 (x3 + 1).toNat), vi (F 9999 (x3 + 2).toNat)] [] rfl (Nat.le_of_ble_eq_true rfl) (Nat.le_of_ble_eq_true rfl) rfl (Nat.le_of_ble_eq_true rfl) rfl (Nat.le_of_ble_eq_true rfl) (Nat.le_of_ble_eq_true rfl) ⟨_, _, rfl, Nat.le_of_ble_eq_true rfl, rfl⟩ ?_
  refine wp.mono H ?_
  rintro v w1 ⟨v5, F6, G7, rfl, rfl, H⟩
  show wp 12 201 (631, [some (vr 9999), some (vr 0), some (vr 297), some (vi x3)], [vi v5], (Wd S L F6 G7 h)) _
  refine pt201 (s' := (642, [some (vr 9999), some (vr 0), some (vr 297), some (vi x3)], [vi (F6 9999 (x3 + 2).toNat), vi (F6 9999 (x3 + 1).toNat), vr 297, vi v5], (Wd S L F6 G7 h))) (by decide) [0, 0, 0, 0, 0, 1, 0, 0, 0, 0, 1] rfl ⟨⟨trivial, ⟨rfl, g1, g2.1, g2.2⟩⟩, ⟨rfl, g3, g4.1, g4.2⟩⟩ ?_
  refine wp.cl am_m201 rfl am_m140 11 [vr 297, vi (F6 9999 (x3 + 1).toNat), vi (F6 9999 (x3 + 2).toNat)] [vi v5] rfl (Nat.le_of_ble_eq_true rfl) (Nat.le_of_ble_eq_true rfl) rfl (Nat.le_of_ble_eq_true rfl) rfl (Nat.le_of_ble_eq_true rfl) (Nat.le_of_ble_eq_true rfl) ⟨_, _, rfl, Nat.le_of_ble_eq_true rfl, rfl⟩ ?_
  refine wp.mono H ?_
  rintro v w1 ⟨v8, F9, G10, rfl, rfl, H⟩
  show wp 12 201 (645, [some (vr 9999), some (vr 0), some (vr 297), some (vi x3)], [vi v8, vi v5], (Wd S L F9 G10 h)) _
  obtain ⟨g11, H⟩ := H
  obtain ⟨g12, H⟩ := H
  by_cases c13 : v5 = v8
  · rw [if_pos c13] at H
    refine pt201 (s' := (18, [some (vr 9999), some (vr 0), some (vr 297), some (vi (x3 + 6))], [], (Wd S L F9 G10 h))) (by decide) [1, 0, 0] rfl ⟨trivial, ⟨⟨g11, g12⟩, c13⟩⟩ ?_
    exact wp.weak (a := [some (vr 9999), some (vr 0), some (vr 297), some (vi (x3 + 6))]) ⟨rfl, rfl, rfl, rfl, trivial⟩ H
  · rw [if_neg c13] at H
    refine pt201 (s' := (649, [some (vr 9999), some (vr 0), some (vr 297), some (vi x3)], [vi 0], (Wd S L F9 G10 h))) (by decide) [0, 0] rfl ⟨trivial, ⟨⟨g11, g12⟩, c13⟩⟩ ?_
    exact wp.fin (v := some (vi 0)) (by decide) am_m201 rfl ⟨_, rfl, Or.inr ⟨rfl, Or.inl rfl⟩, rfl⟩ H
set_option maxRecDepth 100000 in
set_option maxHeartbeats 4000000 in
theorem T201_650 {S L : Nat} {F G : Nat → Nat → Int} {h : Nat → Nat → Option Nat} (hh : RfH h) {x3 : Int}  {Q : Option V2 → W2 → Prop}
    (H : (R32 (x3 + 1) ∧
 (0 ≤ (x3 + 1) ∧ (x3 + 1) < (L : Int)) ∧
 R32 (x3 + 2) ∧
 (0 ≤ (x3 + 2) ∧ (x3 + 2) < (L : Int)) ∧
 C80_0 (F 9999 (x3 + 1).toNat) (F 9999 (x3 + 2).toNat) (Wd S L F G h) (fun v w1 => ∃ (v5 : Int), v = some (vi v5) ∧ w1 = (Wd S L F G h) ∧
  C141_0 (F 9999 (x3 + 1).toNat) (F 9999 (x3 + 2).toNat) (Wd S L F G h) (fun v w1 => ∃ (v6 : Int), v = some (vi v6) ∧ w1 = (Wd S L F G h) ∧
   (R32 v5 ∧
   R32 v6 ∧
   (if v5 = v6 then
    C201_18 (x3 + 6) (Wd S L F G h) Q
   else
    Q (some (vi 0)) (Wd S L F G h))))))) : C201_650 x3 (Wd S L F G h) Q := by
  obtain ⟨g1, H⟩ := H
  obtain ⟨g2, H⟩ := H
  obtain ⟨g3, H⟩ := H
  obtain ⟨g4, H⟩ := H
  refine pt201 (s' := (661, [some (vr 9999), some (vr 0), some (vr 297), some (vi x3)], [vi (F 9999 (x3 + 2).toNat), vi (F 9999 (x3 + 1).toNat), vr 0], (Wd S L F G h))) (by decide) [0, 0, 0, 0, 0, 1, 0, 0, 0, 0, 1] rfl ⟨⟨trivial, ⟨rfl, g1, g2.1, g2.2⟩⟩, ⟨rfl, g3, g4.1, g4.2⟩⟩ ?_
  refine wp.cl am_m201 rfl am_m80 9 [vr 0, vi (F 9999 (x3 + 1).toNat), vi (F 9999 (x3 + 2).toNat)] [] rfl (Nat.le_of_ble_eq_true rfl) (Nat.le_of_ble_eq_true rfl) rfl (Nat.le_of_ble_eq_true rfl) rfl (Nat.le_of_ble_eq_true rfl) (Nat.le_of_ble_eq_true rfl) ⟨_, _, rfl, Nat.le_of_ble_eq_true rfl, rfl⟩ ?_
  refine wp.mono H ?_
  rintro v w1 ⟨v5, rfl, rfl, H⟩
  show wp 12 201 (664, [some (vr 9999), some (vr 0), some (vr 297), some (vi x3)], [vi v5], (Wd S L F G h)) _
  refine pt201 (s' := (675, [some (vr 9999), some (vr 0), some (vr 297), some (vi x3)], [vi (F 9999 (x3 + 2).toNat), vi (F 9999 (x3 + 1).toNat), vr 297, vi v5], (Wd S L F G h))) (by decide) [0, 0, 0, 0, 0, 1, 0, 0, 0, 0, 1] rfl ⟨⟨trivial, ⟨rfl, g1, g2.1, g2.2⟩⟩, ⟨rfl, g3, g4.1, g4.2⟩⟩ ?_
  refine wp.cl am_m201 rfl am_m141 8 [vr 297, vi (F 9999 (x3 + 1).toNat), vi (F 9999 (x3 + 2).toNat)] [vi v5] rfl (Nat.le_of_ble_eq_true rfl) (Nat.le_of_ble_eq_true rfl) rfl (Nat.le_of_ble_eq_true rfl) rfl (Nat.le_of_ble_eq_true rfl) (Nat.le_of_ble_eq_true rfl) ⟨_, _, rfl, Nat.le_of_ble_eq_true rfl, rfl⟩ ?_
  refine wp.mono H ?_
  rintro v w1 ⟨v6, rfl, rfl, H⟩
  show wp 12 201 (678, [some (vr 9999), some (vr 0), some (vr 297), some (vi x3)], [vi v6, vi v5], (Wd S L F G h)) _
  obtain ⟨g7, H⟩ := H
  obtain ⟨g8, H⟩ := H
  by_cases c9 : v5 = v6
  · rw [if_pos c9] at H
    refine pt201 (s' := (18, [some (vr 9999), some (vr 0), some (vr 297), some (vi (x3 + 6))], [], (Wd S L F G h))) (by decide) [1, 0, 0] rfl ⟨trivial, ⟨⟨g7, g8⟩, c9⟩⟩ ?_
    exact wp.weak (a := [some (vr 9999), some (vr 0), some (vr 297), some (vi (x3 + 6))]) ⟨rfl, rfl, rfl, rfl, trivial⟩ H
  · rw [if_neg c9] at H
    refine pt201 (s' := (682, [some (vr 9999), some (vr 0), some (vr 297), some (vi x3)], [vi 0], (Wd S L F G h))) (by decide) [0, 0] rfl ⟨trivial, ⟨⟨g7, g8⟩, c9⟩⟩ ?_
    exact wp.fin (v := some (vi 0)) (by decide) am_m201 rfl ⟨_, rfl, Or.inr ⟨rfl, Or.inl rfl⟩, rfl⟩ H
set_option maxRecDepth 100000 in
set_option maxHeartbeats 4000000 in
theorem T201_683 {S L : Nat} {F G : Nat → Nat → Int} {h : Nat → Nat → Option Nat} (hh : RfH h) {x3 : Int}  {Q : Option V2 → W2 → Prop}
    (H : (R32 (x3 + 1) ∧
 (0 ≤ (x3 + 1) ∧ (x3 + 1) < (L : Int)) ∧
 C81_0 (F 9999 (x3 + 1).toNat) (Wd S L F G h) (fun v w1 => ∃ (v3 : Int) (F4 : Nat → Nat → Int) (h5 : Nat → Nat → Option Nat), v = some (vi v3) ∧ w1 = (Wd S L F4 G h5) ∧ RfH h5 ∧
  C170_0 (F4 9999 (x3 + 1).toNat) (Wd S L F4 G h5) (fun v w1 => ∃ (v7 : Int) (F8 : Nat → Nat → Int), v = some (vi v7) ∧ w1 = (Wd S L F8 G h5) ∧
   (R32 v3 ∧
   R32 v7 ∧
   (if v3 = v7 then
    C201_18 (x3 + 6) (Wd S L F8 G h5) Q
   else
    Q (some (vi 0)) (Wd S L F8 G h5))))))) : C201_683 x3 (Wd S L F G h) Q := by
  obtain ⟨g1, H⟩ := H
  obtain ⟨g2, H⟩ := H
  refine pt201 (s' := (689, [some (vr 9999), some (vr 0), some (vr 297), some (vi x3)], [vi (F 9999 (x3 + 1).toNat), vr 0], (Wd S L F G h))) (by decide) [0, 0, 0, 0, 0, 1] rfl ⟨trivial, ⟨rfl, g1, g2.1, g2.2⟩⟩ ?_
  refine wp.cl am_m201 rfl am_m81 9 [vr 0, vi (F 9999 (x3 + 1).toNat)] [] rfl (Nat.le_of_ble_eq_true rfl) (Nat.le_of_ble_eq_true rfl) rfl (Nat.le_of_ble_eq_true rfl) rfl (Nat.le_of_ble_eq_true rfl) (Nat.le_of_ble_eq_true rfl) ⟨_, _, rfl, Nat.le_of_ble_eq_true rfl, rfl⟩ ?_
  refine wp.mono H ?_
  rintro v w1 ⟨v3, F4, h5, rfl, rfl, r6, H⟩
  show wp 12 201 (692, [some (vr 9999), some (vr 0), some (vr 297), some (vi x3)], [vi v3], (Wd S L F4 G h5)) _
  refine pt201 (s' := (698, [some (vr 9999), some (vr 0), some (vr 297), some (vi x3)], [vi (F4 9999 (x3 + 1).toNat), vr 297, vi v3], (Wd S L F4 G h5))) (by decide) [0, 0, 0, 0, 0, 1] rfl ⟨trivial, ⟨rfl, g1, g2.1, g2.2⟩⟩ ?_
  refine wp.cl am_m201 rfl am_m170 8 [vr 297, vi (F4 9999 (x3 + 1).toNat)] [vi v3] rfl (Nat.le_of_ble_eq_true rfl) (Nat.le_of_ble_eq_true rfl) rfl (Nat.le_of_ble_eq_true rfl) rfl (Nat.le_of_ble_eq_true rfl) (Nat.le_of_ble_eq_true rfl) ⟨_, _, rfl, Nat.le_of_ble_eq_true rfl, rfl⟩ ?_
  refine wp.mono H ?_
  rintro v w1 ⟨v7, F8, rfl, rfl, H⟩
  show wp 12 201 (701, [some (vr 9999), some (vr 0), some (vr 297), some (vi x3)], [vi v7, vi v3], (Wd S L F8 G h5)) _
  obtain ⟨g9, H⟩ := H
  obtain ⟨g10, H⟩ := H
  by_cases c11 : v3 = v7
  · rw [if_pos c11] at H
    refine pt201 (s' := (18, [some (vr 9999), some (vr 0), some (vr 297), some (vi (x3 + 6))], [], (Wd S L F8 G h5))) (by decide) [1, 0, 0] rfl ⟨trivial, ⟨⟨g9, g10⟩, c11⟩⟩ ?_
    exact wp.weak (a := [some (vr 9999), some (vr 0), some (vr 297), some (vi (x3 + 6))]) ⟨rfl, rfl, rfl, rfl, trivial⟩ H
  · rw [if_neg c11] at H
    refine pt201 (s' := (705, [some (vr 9999), some (vr 0), some (vr 297), some (vi x3)], [vi 0], (Wd S L F8 G h5))) (by decide) [0, 0] rfl ⟨trivial, ⟨⟨g9, g10⟩, c11⟩⟩ ?_
    exact wp.fin (v := some (vi 0)) (by decide) am_m201 rfl ⟨_, rfl, Or.inr ⟨rfl, Or.inl rfl⟩, rfl⟩ H
set_option maxRecDepth 100000 in
set_option maxHeartbeats 4000000 in
theorem T201_706 {S L : Nat} {F G : Nat → Nat → Int} {h : Nat → Nat → Option Nat} (hh : RfH h) {x3 : Int}  {Q : Option V2 → W2 → Prop}
    (H : (R32 (x3 + 1) ∧
 (0 ≤ (x3 + 1) ∧ (x3 + 1) < (L : Int)) ∧
 R32 (x3 + 2) ∧
 (0 ≤ (x3 + 2) ∧ (x3 + 2) < (L : Int)) ∧
 C82_0 (F 9999 (x3 + 1).toNat) (F 9999 (x3 + 2).toNat) (Wd S L F G h) (fun v w1 => ∃ (v5 : Int), v = some (vi v5) ∧ w1 = (Wd S L F G h) ∧
  C152_0 (F 9999 (x3 + 1).toNat) (F 9999 (x3 + 2).toNat) (Wd S L F G h) (fun v w1 => ∃ (v6 : Int), v = some (vi v6) ∧ w1 = (Wd S L F G h) ∧
   (R32 v5 ∧
   R32 v6 ∧
   (if v5 = v6 then
    C201_18 (x3 + 6) (Wd S L F G h) Q
   else
    Q (some (vi 0)) (Wd S L F G h))))))) : C201_706 x3 (Wd S L F G h) Q := by
  obtain ⟨g1, H⟩ := H
  obtain ⟨g2, H⟩ := H
  obtain ⟨g3, H⟩ := H
  obtain ⟨g4, H⟩ := H
  refine pt201 (s' := (717, [some (vr 9999), some (vr 0), some (vr 297), some (vi x3)], [vi (F 9999 (x3 + 2).toNat), vi (F 9999 (x3 + 1).toNat), vr 0], (Wd S L F G h))) (by decide) [0, 0, 0, 0, 0, 1, 0, 0, 0, 0, 1] rfl ⟨⟨trivial, ⟨rfl, g1, g2.1, g2.2⟩⟩, ⟨rfl, g3, g4.1, g4.2⟩⟩ ?_
  refine wp.cl am_m201 rfl am_m82 9 [vr 0, vi (F 9999 (x3 + 1).toNat), vi (F 9999 (x3 + 2).toNat)] [] rfl (Nat.le_of_ble_eq_true rfl) (Nat.le_of_ble_eq_true rfl) rfl (Nat.le_of_ble_eq_true rfl) rfl (Nat.le_of_ble_eq_true rfl) (Nat.le_of_ble_eq_true rfl) ⟨_, _, rfl, Nat.le_of_ble_eq_true rfl, rfl⟩ ?_
  refine wp.mono H ?_
  rintro v w1 ⟨v5, rfl, rfl, H⟩
  show wp 12 201 (720, [some (vr 9999), some (vr 0), some (vr 297), some (vi x3)], [vi v5], (Wd S L F G h)) _
  refine pt201 (s' := (731, [some (vr 9999), some (vr 0), some (vr 297), some (vi x3)], [vi (F 9999 (x3 + 2).toNat), vi (F 9999 (x3 + 1).toNat), vr 297, vi v5], (Wd S L F G h))) (by decide) [0, 0, 0, 0, 0, 1, 0, 0, 0, 0, 1] rfl ⟨⟨trivial, ⟨rfl, g1, g2.1, g2.2⟩⟩, ⟨rfl, g3, g4.1, g4.2⟩⟩ ?_
  refine wp.cl am_m201 rfl am_m152 9 [vr 297, vi (F 9999 (x3 + 1).toNat), vi (F 9999 (x3 + 2).toNat)] [vi v5] rfl (Nat.le_of_ble_eq_true rfl) (Nat.le_of_ble_eq_true rfl) rfl (Nat.le_of_ble_eq_true rfl) rfl (Nat.le_of_ble_eq_true rfl) (Nat.le_of_ble_eq_true rfl) ⟨_, _, rfl, Nat.le_of_ble_eq_true rfl, rfl⟩ ?_
  refine wp.mono H ?_
  rintro v w1 ⟨v6, rfl, rfl, H⟩
  show wp 12 201 (734, [some (vr 9999), some (vr 0), some (vr 297), some (vi x3)], [vi v6, vi v5], (Wd S L F G h)) _
  obtain ⟨g7, H⟩ := H
  obtain ⟨g8, H⟩ := H
  by_cases c9 : v5 = v6
  · rw [if_pos c9] at H
    refine pt201 (s' := (18, [some (vr 9999), some (vr 0), some (vr 297), some (vi (x3 + 6))], [], (Wd S L F G h))) (by decide) [1, 0, 0] rfl ⟨trivial, ⟨⟨g7, g8⟩, c9⟩⟩ ?_
    exact wp.weak (a := [some (vr 9999), some (vr 0), some (vr 297), some (vi (x3 + 6))]) ⟨rfl, rfl, rfl, rfl, trivial⟩ H
  · rw [if_neg c9] at H
    refine pt201 (s' := (738, [some (vr 9999), some (vr 0), some (vr 297), some (vi x3)], [vi 0], (Wd S L F G h))) (by decide) [0, 0] rfl ⟨trivial, ⟨⟨g7, g8⟩, c9⟩⟩ ?_
    exact wp.fin (v := some (vi 0)) (by decide) am_m201 rfl ⟨_, rfl, Or.inr ⟨rfl, Or.inl rfl⟩, rfl⟩ H
set_option maxRecDepth 100000 in
set_option maxHeartbeats 4000000 in
theorem T201_739 {S L : Nat} {F G : Nat → Nat → Int} {h : Nat → Nat → Option Nat} (hh : RfH h) {x3 : Int}  {Q : Option V2 → W2 → Prop}
    (H : (R32 (x3 + 1) ∧
 (0 ≤ (x3 + 1) ∧ (x3 + 1) < (L : Int)) ∧
 R32 (x3 + 2) ∧
 (0 ≤ (x3 + 2) ∧ (x3 + 2) < (L : Int)) ∧
 C83_0 (F 9999 (x3 + 1).toNat) (F 9999 (x3 + 2).toNat) (Wd S L F G h) (fun v w1 => ∃ (v5 : Int), v = some (vi v5) ∧ w1 = (Wd S L F G h) ∧
  C153_0 (F 9999 (x3 + 1).toNat) (F 9999 (x3 + 2).toNat) (Wd S L F G h) (fun v w1 => ∃ (v6 : Int), v = some (vi v6) ∧ w1 = (Wd S L F G h) ∧
   (R32 v5 ∧
   R32 v6 ∧
   (if v5 = v6 then
    C201_18 (x3 + 6) (Wd S L F G h) Q
   else
    Q (some (vi 0)) (Wd S L F G h))))))) : C201_739 x3 (Wd S L F G h) Q := by
  obtain ⟨g1, H⟩ := H
  obtain ⟨g2, H⟩ := H
  obtain ⟨g3, H⟩ := H
  obtain ⟨g4, H⟩ := H
  refine pt201 (s' := (750, [some (vr 9999), some (vr 0), some (vr 297), some (vi x3)], [vi (F 9999 (x3 + 2).toNat), vi (F 9999 (x3 + 1).toNat), vr 0], (Wd S L F G h))) (by decide) [0, 0, 0, 0, 0, 1, 0, 0, 0, 0, 1] rfl ⟨⟨trivial, ⟨rfl, g1, g2.1, g2.2⟩⟩, ⟨rfl, g3, g4.1, g4.2⟩⟩ ?_
  refine wp.cl am_m201 rfl am_m83 7 [vr 0, vi (F 9999 (x3 + 1).toNat), vi (F 9999 (x3 + 2).toNat)] [] rfl (Nat.le_of_ble_eq_true rfl) (Nat.le_of_ble_eq_true rfl) rfl (Nat.le_of_ble_eq_true rfl) rfl (Nat.le_of_ble_eq_true rfl) (Nat.le_of_ble_eq_true rfl) ⟨_, _, rfl, Nat.le_of_ble_eq_true rfl, rfl⟩ ?_
  refine wp.mono H ?_
  rintro v w1 ⟨v5, rfl, rfl, H⟩
  show wp 12 201 (753, [some (vr 9999), some (vr 0), some (vr 297), some (vi x3)], [vi v5], (Wd S L F G h)) _
  refine pt201 (s' := (764, [some (vr 9999), some (vr 0), some (vr 297), some (vi x3)], [vi (F 9999 (x3 + 2).toNat), vi (F 9999 (x3 + 1).toNat), vr 297, vi v5], (Wd S L F G h))) (by decide) [0, 0, 0, 0, 0, 1, 0, 0, 0, 0, 1] rfl ⟨⟨trivial, ⟨rfl, g1, g2.1, g2.2⟩⟩, ⟨rfl, g3, g4.1, g4.2⟩⟩ ?_
  refine wp.cl am_m201 rfl am_m153 8 [vr 297, vi (F 9999 (x3 + 1).toNat), vi (F 9999 (x3 + 2).toNat)] [vi v5] rfl (Nat.le_of_ble_eq_true rfl) (Nat.le_of_ble_eq_true rfl) rfl (Nat.le_of_ble_eq_true rfl) rfl (Nat.le_of_ble_eq_true rfl) (Nat.le_of_ble_eq_true rfl) ⟨_, _, rfl, Nat.le_of_ble_eq_true rfl, rfl⟩ ?_
  refine wp.mono H ?_
  rintro v w1 ⟨v6, rfl, rfl, H⟩
  show wp 12 201 (767, [some (vr 9999), some (vr 0), some (vr 297), some (vi x3)], [vi v6, vi v5], (Wd S L F G h)) _
  obtain ⟨g7, H⟩ := H
  obtain ⟨g8, H⟩ := H
  by_cases c9 : v5 = v6
  · rw [if_pos c9] at H
    refine pt201 (s' := (18, [some (vr 9999), some (vr 0), some (vr 297), some (vi (x3 + 6))], [], (Wd S L F G h))) (by decide) [1, 0, 0] rfl ⟨trivial, ⟨⟨g7, g8⟩, c9⟩⟩ ?_
    exact wp.weak (a := [some (vr 9999), some (vr 0), some (vr 297), some (vi (x3 + 6))]) ⟨rfl, rfl, rfl, rfl, trivial⟩ H
  · rw [if_neg c9] at H
    refine pt201 (s' := (771, [some (vr 9999), some (vr 0), some (vr 297), some (vi x3)], [vi 0], (Wd S L F G h))) (by decide) [0, 0] rfl ⟨trivial, ⟨⟨g7, g8⟩, c9⟩⟩ ?_
    exact wp.fin (v := some (vi 0)) (by decide) am_m201 rfl ⟨_, rfl, Or.inr ⟨rfl, Or.inl rfl⟩, rfl⟩ H
set_option maxRecDepth 100000 in
set_option maxHeartbeats 4000000 in
theorem T201_772 {S L : Nat} {F G : Nat → Nat → Int} {h : Nat → Nat → Option Nat} (hh : RfH h) {x3 : Int}  {Q : Option V2 → W2 → Prop}
    (H : (R32 (x3 + 1) ∧
 (0 ≤ (x3 + 1) ∧ (x3 + 1) < (L : Int)) ∧
 C84_0 (F 9999 (x3 + 1).toNat) (Wd S L F G h) (fun v w1 => ∃ (v3 : Int), v = some (vi v3) ∧ w1 = (Wd S L F G h) ∧
  C154_0 (F 9999 (x3 + 1).toNat) (Wd S L F G h) (fun v w1 => ∃ (v4 : Int), v = some (vi v4) ∧ w1 = (Wd S L F G h) ∧
   (R32 v3 ∧
   R32 v4 ∧
   (if v3 = v4 then
    C201_18 (x3 + 6) (Wd S L F G h) Q
   else
    Q (some (vi 0)) (Wd S L F G h))))))) : C201_772 x3 (Wd S L F G h) Q := by
  obtain ⟨g1, H⟩ := H
  obtain ⟨g2, H⟩ := H
  refine pt201 (s' := (778, [some (vr 9999), some (vr 0), some (vr 297), some (vi x3)], [vi (F 9999 (x3 + 1).toNat), vr 0], (Wd S L F G h))) (by decide) [0, 0, 0, 0, 0, 1] rfl ⟨trivial, ⟨rfl, g1, g2.1, g2.2⟩⟩ ?_
  refine wp.cl am_m201 rfl am_m84 10 [vr 0, vi (F 9999 (x3 + 1).toNat)] [] rfl (Nat.le_of_ble_eq_true rfl) (Nat.le_of_ble_eq_true rfl) rfl (Nat.le_of_ble_eq_true rfl) rfl (Nat.le_of_ble_eq_true rfl) (Nat.le_of_ble_eq_true rfl) ⟨_, _, rfl, Nat.le_of_ble_eq_true rfl, rfl⟩ ?_
  refine wp.mono H ?_
  rintro v w1 ⟨v3, rfl, rfl, H⟩
  show wp 12 201 (781, [some (vr 9999), some (vr 0), some (vr 297), some (vi x3)], [vi v3], (Wd S L F G h)) _
  refine pt201 (s' := (787, [some (vr 9999), some (vr 0), some (vr 297), some (vi x3)], [vi (F 9999 (x3 + 1).toNat), vr 297, vi v3], (Wd S L F G h))) (by decide) [0, 0, 0, 0, 0, 1] rfl ⟨trivial, ⟨rfl, g1, g2.1, g2.2⟩⟩ ?_
  refine wp.cl am_m201 rfl am_m154 9 [vr 297, vi (F 9999 (x3 + 1).toNat)] [vi v3] rfl (Nat.le_of_ble_eq_true rfl) (Nat.le_of_ble_eq_true rfl) rfl (Nat.le_of_ble_eq_true rfl) rfl (Nat.le_of_ble_eq_true rfl) (Nat.le_of_ble_eq_true rfl) ⟨_, _, rfl, Nat.le_of_ble_eq_true rfl, rfl⟩ ?_
  refine wp.mono H ?_
  rintro v w1 ⟨v4, rfl, rfl, H⟩
  show wp 12 201 (790, [some (vr 9999), some (vr 0), some (vr 297), some (vi x3)], [vi v4, vi v3], (Wd S L F G h)) _
  obtain ⟨g5, H⟩ := H
  obtain ⟨g6, H⟩ := H
  by_cases c7 : v3 = v4
  · rw [if_pos c7] at H
    refine pt201 (s' := (18, [some (vr 9999), some (vr 0), some (vr 297), some (vi (x3 + 6))], [], (Wd S L F G h))) (by decide) [1, 0, 0] rfl ⟨trivial, ⟨⟨g5, g6⟩, c7⟩⟩ ?_
    exact wp.weak (a := [some (vr 9999), some (vr 0), some (vr 297), some (vi (x3 + 6))]) ⟨rfl, rfl, rfl, rfl, trivial⟩ H
  · rw [if_neg c7] at H
    refine pt201 (s' := (794, [some (vr 9999), some (vr 0), some (vr 297), some (vi x3)], [vi 0], (Wd S L F G h))) (by decide) [0, 0] rfl ⟨trivial, ⟨⟨g5, g6⟩, c7⟩⟩ ?_
    exact wp.fin (v := some (vi 0)) (by decide) am_m201 rfl ⟨_, rfl, Or.inr ⟨rfl, Or.inl rfl⟩, rfl⟩ H
set_option maxRecDepth 100000 in
set_option maxHeartbeats 4000000 in
theorem T201_795 {S L : Nat} {F G : Nat → Nat → Int} {h : Nat → Nat → Option Nat} (hh : RfH h) {x3 : Int}  {Q : Option V2 → W2 → Prop}
    (H : (R32 (x3 + 1) ∧
 (0 ≤ (x3 + 1) ∧ (x3 + 1) < (L : Int)) ∧
 C85_0 (F 9999 (x3 + 1).toNat) (Wd S L F G h) (fun v w1 => ∃ (v3 : Int) (F4 : Nat → Nat → Int), v = some (vi v3) ∧ w1 = (Wd S L F4 G h) ∧
  C171_0 (F4 9999 (x3 + 1).toNat) (Wd S L F4 G h) (fun v w1 => ∃ (v5 : Int) (F6 : Nat → Nat → Int), v = some (vi v5) ∧ w1 = (Wd S L F6 G h) ∧
   (R32 v3 ∧
   R32 v5 ∧
   (if v3 = v5 then
    C201_18 (x3 + 6) (Wd S L F6 G h) Q
   else
    Q (some (vi 0)) (Wd S L F6 G h))))))) : C201_795 x3 (Wd S L F G h) Q := by
  obtain ⟨g1, H⟩ := H
  obtain ⟨g2, H⟩ := H
  refine pt201 (s' := (801, [some (vr 9999), some (vr 0), some (vr 297), some (vi x3)], [vi (F 9999 (x3 + 1).toNat), vr 0], (Wd S L F G h))) (by decide) [0, 0, 0, 0, 0, 1] rfl ⟨trivial, ⟨rfl, g1, g2.1, g2.2⟩⟩ ?_
  refine wp.cl am_m201 rfl am_m85 7 [vr 0, vi (F 9999 (x3 + 1).toNat)] [] rfl (Nat.le_of_ble_eq_true rfl) (Nat.le_of_ble_eq_true rfl) rfl (Nat.le_of_ble_eq_true rfl) rfl (Nat.le_of_ble_eq_true rfl) (Nat.le_of_ble_eq_true rfl) ⟨_, _, rfl, Nat.le_of_ble_eq_true rfl, rfl⟩ ?_
  refine wp.mono H ?_
  rintro v w1 ⟨v3, F4, rfl, rfl, H⟩
  show wp 12 201 (804, [some (vr 9999), some (vr 0), some (vr 297), some (vi x3)], [vi v3], (Wd S L F4 G h)) _
  refine pt201 (s' := (810, [some (vr 9999), some (vr 0), some (vr 297), some (vi x3)], [vi (F4 9999 (x3 + 1).toNat), vr 297, vi v3], (Wd S L F4 G h))) (by decide) [0, 0, 0, 0, 0, 1] rfl ⟨trivial, ⟨rfl, g1, g2.1, g2.2⟩⟩ ?_
  refine wp.cl am_m201 rfl am_m171 7 [vr 297, vi (F4 9999 (x3 + 1).toNat)] [vi v3] rfl (Nat.le_of_ble_eq_true rfl) (Nat.le_of_ble_eq_true rfl) rfl (Nat.le_of_ble_eq_true rfl) rfl (Nat.le_of_ble_eq_true rfl) (Nat.le_of_ble_eq_true rfl) ⟨_, _, rfl, Nat.le_of_ble_eq_true rfl, rfl⟩ ?_
  refine wp.mono H ?_
  rintro v w1 ⟨v5, F6, rfl, rfl, H⟩
  show wp 12 201 (813, [some (vr 9999), some (vr 0), some (vr 297), some (vi x3)], [vi v5, vi v3], (Wd S L F6 G h)) _
  obtain ⟨g7, H⟩ := H
  obtain ⟨g8, H⟩ := H
  by_cases c9 : v3 = v5
  · rw [if_pos c9] at H
    refine pt201 (s' := (18, [some (vr 9999), some (vr 0), some (vr 297), some (vi (x3 + 6))], [], (Wd S L F6 G h))) (by decide) [1, 0, 0] rfl ⟨trivial, ⟨⟨g7, g8⟩, c9⟩⟩ ?_
    exact wp.weak (a := [some (vr 9999), some (vr 0), some (vr 297), some (vi (x3 + 6))]) ⟨rfl, rfl, rfl, rfl, trivial⟩ H
  · rw [if_neg c9] at H
    refine pt201 (s' := (817, [some (vr 9999), some (vr 0), some (vr 297), some (vi x3)], [vi 0], (Wd S L F6 G h))) (by decide) [0, 0] rfl ⟨trivial, ⟨⟨g7, g8⟩, c9⟩⟩ ?_
    exact wp.fin (v := some (vi 0)) (by decide) am_m201 rfl ⟨_, rfl, Or.inr ⟨rfl, Or.inl rfl⟩, rfl⟩ H
set_option maxRecDepth 100000 in
set_option maxHeartbeats 4000000 in
theorem T201_818 {S L : Nat} {F G : Nat → Nat → Int} {h : Nat → Nat → Option Nat} (hh : RfH h) {x3 : Int}  {Q : Option V2 → W2 → Prop}
    (H : C86_0  (Wd S L F G h) (fun v w1 => ∃ (v1 : Int) (F2 : Nat → Nat → Int) (h3 : Nat → Nat → Option Nat), v = some (vi v1) ∧ w1 = (Wd S L F2 G h3) ∧ RfH h3 ∧
  C185_0  (Wd S L F2 G h3) (fun v w1 => ∃ (v5 : Int) (F6 : Nat → Nat → Int), v = some (vi v5) ∧ w1 = (Wd S L F6 G h3) ∧
   (R32 v1 ∧
   R32 v5 ∧
   (if v1 = v5 then
    C201_18 (x3 + 6) (Wd S L F6 G h3) Q
   else
    Q (some (vi 0)) (Wd S L F6 G h3)))))) : C201_818 x3 (Wd S L F G h) Q := by
  refine pt201 (s' := (819, [some (vr 9999), some (vr 0), some (vr 297), some (vi x3)], [vr 0], (Wd S L F G h))) (by decide) [0] rfl trivial ?_
  refine wp.cl am_m201 rfl am_m86 11 [vr 0] [] rfl (Nat.le_of_ble_eq_true rfl) (Nat.le_of_ble_eq_true rfl) rfl (Nat.le_of_ble_eq_true rfl) rfl (Nat.le_of_ble_eq_true rfl) (Nat.le_of_ble_eq_true rfl) ⟨_, _, rfl, Nat.le_of_ble_eq_true rfl, rfl⟩ ?_
  refine wp.mono H ?_
  rintro v w1 ⟨v1, F2, h3, rfl, rfl, r4, H⟩
  show wp 12 201 (822, [some (vr 9999), some (vr 0), some (vr 297), some (vi x3)], [vi v1], (Wd S L F2 G h3)) _
  refine pt201 (s' := (823, [some (vr 9999), some (vr 0), some (vr 297), some (vi x3)], [vr 297, vi v1], (Wd S L F2 G h3))) (by decide) [0] rfl trivial ?_
  refine wp.cl am_m201 rfl am_m185 10 [vr 297] [vi v1] rfl (Nat.le_of_ble_eq_true rfl) (Nat.le_of_ble_eq_true rfl) rfl (Nat.le_of_ble_eq_true rfl) rfl (Nat.le_of_ble_eq_true rfl) (Nat.le_of_ble_eq_true rfl) ⟨_, _, rfl, Nat.le_of_ble_eq_true rfl, rfl⟩ ?_
  refine wp.mono H ?_
  rintro v w1 ⟨v5, F6, rfl, rfl, H⟩
  show wp 12 201 (826, [some (vr 9999), some (vr 0), some (vr 297), some (vi x3)], [vi v5, vi v1], (Wd S L F6 G h3)) _
  obtain ⟨g7, H⟩ := H
  obtain ⟨g8, H⟩ := H
  by_cases c9 : v1 = v5
  · rw [if_pos c9] at H
    refine pt201 (s' := (18, [some (vr 9999), some (vr 0), some (vr 297), some (vi (x3 + 6))], [], (Wd S L F6 G h3))) (by decide) [1, 0, 0] rfl ⟨trivial, ⟨⟨g7, g8⟩, c9⟩⟩ ?_
    exact wp.weak (a := [some (vr 9999), some (vr 0), some (vr 297), some (vi (x3 + 6))]) ⟨rfl, rfl, rfl, rfl, trivial⟩ H
  · rw [if_neg c9] at H
    refine pt201 (s' := (830, [some (vr 9999), some (vr 0), some (vr 297), some (vi x3)], [vi 0], (Wd S L F6 G h3))) (by decide) [0, 0] rfl ⟨trivial, ⟨⟨g7, g8⟩, c9⟩⟩ ?_
    exact wp.fin (v := some (vi 0)) (by decide) am_m201 rfl ⟨_, rfl, Or.inr ⟨rfl, Or.inl rfl⟩, rfl⟩ H
set_option maxRecDepth 100000 in
set_option maxHeartbeats 4000000 in
theorem T201_831 {S L : Nat} {F G : Nat → Nat → Int} {h : Nat → Nat → Option Nat} (hh : RfH h) {x3 : Int}  {Q : Option V2 → W2 → Prop}
    (H : (R32 (x3 + 1) ∧
 (0 ≤ (x3 + 1) ∧ (x3 + 1) < (L : Int)) ∧
 C87_0 (F 9999 (x3 + 1).toNat) (Wd S L F G h) (fun v w1 => ∃ (v3 : Int) (F4 : Nat → Nat → Int) (h5 : Nat → Nat → Option Nat), v = some (vi v3) ∧ w1 = (Wd S L F4 G h5) ∧ RfH h5 ∧
  C186_0 (F4 9999 (x3 + 1).toNat) (Wd S L F4 G h5) (fun v w1 => ∃ (v7 : Int) (F8 : Nat → Nat → Int), v = some (vi v7) ∧ w1 = (Wd S L F8 G h5) ∧
   (R32 v3 ∧
   R32 v7 ∧
   (if v3 = v7 then
    C201_18 (x3 + 6) (Wd S L F8 G h5) Q
   else
    Q (some (vi 0)) (Wd S L F8 G h5))))))) : C201_831 x3 (Wd S L F G h) Q := by
  obtain ⟨g1, H⟩ := H
  obtain ⟨g2, H⟩ := H
  refine pt201 (s' := (837, [some (vr 9999), some (vr 0), some (vr 297), some (vi x3)], [vi (F 9999 (x3 + 1).toNat), vr 0], (Wd S L F G h))) (by decide) [0, 0, 0, 0, 0, 1] rfl ⟨trivial, ⟨rfl, g1, g2.1, g2.2⟩⟩ ?_
  refine wp.cl am_m201 rfl am_m87 11 [vr 0, vi (F 9999 (x3 + 1).toNat)] [] rfl (Nat.le_of_ble_eq_true rfl) (Nat.le_of_ble_eq_true rfl) rfl (Nat.le_of_ble_eq_true rfl) rfl (Nat.le_of_ble_eq_true rfl) (Nat.le_of_ble_eq_true rfl) ⟨_, _, rfl, Nat.le_of_ble_eq_true rfl, rfl⟩ ?_
  refine wp.mono H ?_
  rintro v w1 ⟨v3, F4, h5, rfl, rfl, r6, H⟩
  show wp 12 201 (840, [some (vr 9999), some (vr 0), some (vr 297), some (vi x3)], [vi v3], (Wd S L F4 G h5)) _
  refine pt201 (s' := (846, [some (vr 9999), some (vr 0), some (vr 297), some (vi x3)], [vi (F4 9999 (x3 + 1).toNat), vr 297, vi v3], (Wd S L F4 G h5))) (by decide) [0, 0, 0, 0, 0, 1] rfl ⟨trivial, ⟨rfl, g1, g2.1, g2.2⟩⟩ ?_
  refine wp.cl am_m201 rfl am_m186 9 [vr 297, vi (F4 9999 (x3 + 1).toNat)] [vi v3] rfl (Nat.le_of_ble_eq_true rfl) (Nat.le_of_ble_eq_true rfl) rfl (Nat.le_of_ble_eq_true rfl) rfl (Nat.le_of_ble_eq_true rfl) (Nat.le_of_ble_eq_true rfl) ⟨_, _, rfl, Nat.le_of_ble_eq_true rfl, rfl⟩ ?_
  refine wp.mono H ?_
  rintro v w1 ⟨v7, F8, rfl, rfl, H⟩
  show wp 12 201 (849, [some (vr 9999), some (vr 0), some (vr 297), some (vi x3)], [vi v7, vi v3], (Wd S L F8 G h5)) _
  obtain ⟨g9, H⟩ := H
  obtain ⟨g10, H⟩ := H
  by_cases c11 : v3 = v7
  · rw [if_pos c11] at H
    refine pt201 (s' := (18, [some (vr 9999), some (vr 0), some (vr 297), some (vi (x3 + 6))], [], (Wd S L F8 G h5))) (by decide) [1, 0, 0] rfl ⟨trivial, ⟨⟨g9, g10⟩, c11⟩⟩ ?_
    exact wp.weak (a := [some (vr 9999), some (vr 0), some (vr 297), some (vi (x3 + 6))]) ⟨rfl, rfl, rfl, rfl, trivial⟩ H
  · rw [if_neg c11] at H
    refine pt201 (s' := (853, [some (vr 9999), some (vr 0), some (vr 297), some (vi x3)], [vi 0], (Wd S L F8 G h5))) (by decide) [0, 0] rfl ⟨trivial, ⟨⟨g9, g10⟩, c11⟩⟩ ?_
    exact wp.fin (v := some (vi 0)) (by decide) am_m201 rfl ⟨_, rfl, Or.inr ⟨rfl, Or.inl rfl⟩, rfl⟩ H
set_option maxRecDepth 100000 in
set_option maxHeartbeats 4000000 in
theorem T201_854 {S L : Nat} {F G : Nat → Nat → Int} {h : Nat → Nat → Option Nat} (hh : RfH h) {x3 : Int}  {Q : Option V2 → W2 → Prop}
    (H : C88_0  (Wd S L F G h) (fun v w1 => ∃ (v1 : Int) (F2 : Nat → Nat → Int), v = some (vi v1) ∧ w1 = (Wd S L F2 G h) ∧
  C187_0  (Wd S L F2 G h) (fun v w1 => ∃ (v3 : Int) (F4 : Nat → Nat → Int), v = some (vi v3) ∧ w1 = (Wd S L F4 G h) ∧
   (R32 v1 ∧
   R32 v3 ∧
   (if v1 = v3 then
    C201_18 (x3 + 6) (Wd S L F4 G h) Q
   else
    Q (some (vi 0)) (Wd S L F4 G h)))))) : C201_854 x3 (Wd S L F G h) Q := by
  refine pt201 (s' := (855, [some (vr 9999), some (vr 0), some (vr 297), some (vi x3)], [vr 0], (Wd S L F G h))) (by decide) [0] rfl trivial ?_
  refine wp.cl am_m201 rfl am_m88 8 [vr 0] [] rfl (Nat.le_of_ble_eq_true rfl) (Nat.le_of_ble_eq_true rfl) rfl (Nat.le_of_ble_eq_true rfl) rfl (Nat.le_of_ble_eq_true rfl) (Nat.le_of_ble_eq_true rfl) ⟨_, _, rfl, Nat.le_of_ble_eq_true rfl, rfl⟩ ?_
  refine wp.mono H ?_
  rintro v w1 ⟨v1, F2, rfl, rfl, H⟩
  show wp 12 201 (858, [some (vr 9999), some (vr 0), some (vr 297), some (vi x3)], [vi v1], (Wd S L F2 G h)) _
  refine pt201 (s' := (859, [some (vr 9999), some (vr 0), some (vr 297), some (vi x3)], [vr 297, vi v1], (Wd S L F2 G h))) (by decide) [0] rfl trivial ?_
  refine wp.cl am_m201 rfl am_m187 6 [vr 297] [vi v1] rfl (Nat.le_of_ble_eq_true rfl) (Nat.le_of_ble_eq_true rfl) rfl (Nat.le_of_ble_eq_true rfl) rfl (Nat.le_of_ble_eq_true rfl) (Nat.le_of_ble_eq_true rfl) ⟨_, _, rfl, Nat.le_of_ble_eq_true rfl, rfl⟩ ?_
  refine wp.mono H ?_
  rintro v w1 ⟨v3, F4, rfl, rfl, H⟩
  show wp 12 201 (862, [some (vr 9999), some (vr 0), some (vr 297), some (vi x3)], [vi v3, vi v1], (Wd S L F4 G h)) _
  obtain ⟨g5, H⟩ := H
  obtain ⟨g6, H⟩ := H
  by_cases c7 : v1 = v3
  · rw [if_pos c7] at H
    refine pt201 (s' := (18, [some (vr 9999), some (vr 0), some (vr 297), some (vi (x3 + 6))], [], (Wd S L F4 G h))) (by decide) [1, 0, 0] rfl ⟨trivial, ⟨⟨g5, g6⟩, c7⟩⟩ ?_
    exact wp.weak (a := [some (vr 9999), some (vr 0), some (vr 297), some (vi (x3 + 6))]) ⟨rfl, rfl, rfl, rfl, trivial⟩ H
  · rw [if_neg c7] at H
    refine pt201 (s' := (866, [some (vr 9999), some (vr 0), some (vr 297), some (vi x3)], [vi 0], (Wd S L F4 G h))) (by decide) [0, 0] rfl ⟨trivial, ⟨⟨g5, g6⟩, c7⟩⟩ ?_
    exact wp.fin (v := some (vi 0)) (by decide) am_m201 rfl ⟨_, rfl, Or.inr ⟨rfl, Or.inl rfl⟩, rfl⟩ H
set_option maxRecDepth 100000 in
set_option maxHeartbeats 4000000 in
theorem T201_867 {S L : Nat} {F G : Nat → Nat → Int} {h : Nat → Nat → Option Nat} (hh : RfH h) {x3 : Int}  {Q : Option V2 → W2 → Prop}
    (H : (R32 (x3 + 1) ∧
 (0 ≤ (x3 + 1) ∧ (x3 + 1) < (L : Int)) ∧
 C89_0 (F 9999 (x3 + 1).toNat) (Wd S L F G h) (fun v w1 => ∃ (v3 : Int) (F4 : Nat → Nat → Int), v = some (vi v3) ∧ w1 = (Wd S L F4 G h) ∧
  C188_0 (F4 9999 (x3 + 1).toNat) (Wd S L F4 G h) (fun v w1 => ∃ (v5 : Int) (F6 : Nat → Nat → Int), v = some (vi v5) ∧ w1 = (Wd S L F6 G h) ∧
   (R32 v3 ∧
   R32 v5 ∧
   (if v3 = v5 then
    C201_18 (x3 + 6) (Wd S L F6 G h) Q
   else
    Q (some (vi 0)) (Wd S L F6 G h))))))) : C201_867 x3 (Wd S L F G h) Q := by
  obtain ⟨g1, H⟩ := H
  obtain ⟨g2, H⟩ := H
  refine pt201 (s' := (873, [some (vr 9999), some (vr 0), some (vr 297), some (vi x3)], [vi (F 9999 (x3 + 1).toNat), vr 0], (Wd S L F G h))) (by decide) [0, 0, 0, 0, 0, 1] rfl ⟨trivial, ⟨rfl, g1, g2.1, g2.2⟩⟩ ?_
  refine wp.cl am_m201 rfl am_m89 6 [vr 0, vi (F 9999 (x3 + 1).toNat)] [] rfl (Nat.le_of_ble_eq_true rfl) (Nat.le_of_ble_eq_true rfl) rfl (Nat.le_of_ble_eq_true rfl) rfl (Nat.le_of_ble_eq_true rfl) (Nat.le_of_ble_eq_true rfl) ⟨_, _, rfl, Nat.le_of_ble_eq_true rfl, rfl⟩ ?_
  refine wp.mono H ?_
  rintro v w1 ⟨v3, F4, rfl, rfl, H⟩
  show wp 12 201 (876, [some (vr 9999), some (vr 0), some (vr 297), some (vi x3)], [vi v3], (Wd S L F4 G h)) _
  refine pt201 (s' := (882, [some (vr 9999), some (vr 0), some (vr 297), some (vi x3)], [vi (F4 9999 (x3 + 1).toNat), vr 297, vi v3], (Wd S L F4 G h))) (by decide) [0, 0, 0, 0, 0, 1] rfl ⟨trivial, ⟨rfl, g1, g2.1, g2.2⟩⟩ ?_
  refine wp.cl am_m201 rfl am_m188 6 [vr 297, vi (F4 9999 (x3 + 1).toNat)] [vi v3] rfl (Nat.le_of_ble_eq_true rfl) (Nat.le_of_ble_eq_true rfl) rfl (Nat.le_of_ble_eq_true rfl) rfl (Nat.le_of_ble_eq_true rfl) (Nat.le_of_ble_eq_true rfl) ⟨_, _, rfl, Nat.le_of_ble_eq_true rfl, rfl⟩ ?_
  refine wp.mono H ?_
  rintro v w1 ⟨v5, F6, rfl, rfl, H⟩
  show wp 12 201 (885, [some (vr 9999), some (vr 0), some (vr 297), some (vi x3)], [vi v5, vi v3], (Wd S L F6 G h)) _
  obtain ⟨g7, H⟩ := H
  obtain ⟨g8, H⟩ := H
  by_cases c9 : v3 = v5
  · rw [if_pos c9] at H
    refine pt201 (s' := (18, [some (vr 9999), some (vr 0), some (vr 297), some (vi (x3 + 6))], [], (Wd S L F6 G h))) (by decide) [1, 0, 0] rfl ⟨trivial, ⟨⟨g7, g8⟩, c9⟩⟩ ?_
    exact wp.weak (a := [some (vr 9999), some (vr 0), some (vr 297), some (vi (x3 + 6))]) ⟨rfl, rfl, rfl, rfl, trivial⟩ H
  · rw [if_neg c9] at H
    refine pt201 (s' := (889, [some (vr 9999), some (vr 0), some (vr 297), some (vi x3)], [vi 0], (Wd S L F6 G h))) (by decide) [0, 0] rfl ⟨trivial, ⟨⟨g7, g8⟩, c9⟩⟩ ?_
    exact wp.fin (v := some (vi 0)) (by decide) am_m201 rfl ⟨_, rfl, Or.inr ⟨rfl, Or.inl rfl⟩, rfl⟩ H
set_option maxRecDepth 100000 in
set_option maxHeartbeats 4000000 in
theorem T201_890 {S L : Nat} {F G : Nat → Nat → Int} {h : Nat → Nat → Option Nat} (hh : RfH h) {x3 : Int}  {Q : Option V2 → W2 → Prop}
    (H : C90_0  (Wd S L F G h) (fun v w1 => ∃ (v1 : Int) (F2 : Nat → Nat → Int), v = some (vi v1) ∧ w1 = (Wd S L F2 G h) ∧
  C189_0  (Wd S L F2 G h) (fun v w1 => ∃ (v3 : Int) (F4 : Nat → Nat → Int), v = some (vi v3) ∧ w1 = (Wd S L F4 G h) ∧
   (R32 v1 ∧
   R32 v3 ∧
   (if v1 = v3 then
    C201_18 (x3 + 6) (Wd S L F4 G h) Q
   else
    Q (some (vi 0)) (Wd S L F4 G h)))))) : C201_890 x3 (Wd S L F G h) Q := by
  refine pt201 (s' := (891, [some (vr 9999), some (vr 0), some (vr 297), some (vi x3)], [vr 0], (Wd S L F G h))) (by decide) [0] rfl trivial ?_
  refine wp.cl am_m201 rfl am_m90 8 [vr 0] [] rfl (Nat.le_of_ble_eq_true rfl) (Nat.le_of_ble_eq_true rfl) rfl (Nat.le_of_ble_eq_true rfl) rfl (Nat.le_of_ble_eq_true rfl) (Nat.le_of_ble_eq_true rfl) ⟨_, _, rfl, Nat.le_of_ble_eq_true rfl, rfl⟩ ?_
  refine wp.mono H ?_
  rintro v w1 ⟨v1, F2, rfl, rfl, H⟩
  show wp 12 201 (894, [some (vr 9999), some (vr 0), some (vr 297), some (vi x3)], [vi v1], (Wd S L F2 G h)) _
  refine pt201 (s' := (895, [some (vr 9999), some (vr 0), some (vr 297), some (vi x3)], [vr 297, vi v1], (Wd S L F2 G h))) (by decide) [0] rfl trivial ?_
  refine wp.cl am_m201 rfl am_m189 6 [vr 297] [vi v1] rfl (Nat.le_of_ble_eq_true rfl) (Nat.le_of_ble_eq_true rfl) rfl (Nat.le_of_ble_eq_true rfl) rfl (Nat.le_of_ble_eq_true rfl) (Nat.le_of_ble_eq_true rfl) ⟨_, _, rfl, Nat.le_of_ble_eq_true rfl, rfl⟩ ?_
  refine wp.mono H ?_
  rintro v w1 ⟨v3, F4, rfl, rfl, H⟩
  show wp 12 201 (898, [some (vr 9999), some (vr 0), some (vr 297), some (vi x3)], [vi v3, vi v1], (Wd S L F4 G h)) _
  obtain ⟨g5, H⟩ := H
  obtain ⟨g6, H⟩ := H
  by_cases c7 : v1 = v3
  · rw [if_pos c7] at H
    refine pt201 (s' := (18, [some (vr 9999), some (vr 0), some (vr 297), some (vi (x3 + 6))], [], (Wd S L F4 G h))) (by decide) [1, 0, 0] rfl ⟨trivial, ⟨⟨g5, g6⟩, c7⟩⟩ ?_
    exact wp.weak (a := [some (vr 9999), some (vr 0), some (vr 297), some (vi (x3 + 6))]) ⟨rfl, rfl, rfl, rfl, trivial⟩ H
  · rw [if_neg c7] at H
    refine pt201 (s' := (902, [some (vr 9999), some (vr 0), some (vr 297), some (vi x3)], [vi 0], (Wd S L F4 G h))) (by decide) [0, 0] rfl ⟨trivial, ⟨⟨g5, g6⟩, c7⟩⟩ ?_
    exact wp.fin (v := some (vi 0)) (by decide) am_m201 rfl ⟨_, rfl, Or.inr ⟨rfl, Or.inl rfl⟩, rfl⟩ H
set_option maxRecDepth 100000 in
set_option maxHeartbeats 4000000 in
theorem T201_903 {S L : Nat} {F G : Nat → Nat → Int} {h : Nat → Nat → Option Nat} (hh : RfH h) {x3 : Int}  {Q : Option V2 → W2 → Prop}
    (H : C91_0  (Wd S L F G h) (fun v w1 => ∃ (v1 : Int) (F2 : Nat → Nat → Int), v = some (vi v1) ∧ w1 = (Wd S L F2 G h) ∧
  C190_0  (Wd S L F2 G h) (fun v w1 => ∃ (v3 : Int) (F4 : Nat → Nat → Int), v = some (vi v3) ∧ w1 = (Wd S L F4 G h) ∧
   (R32 v1 ∧
   R32 v3 ∧
   (if v1 = v3 then
    C201_18 (x3 + 6) (Wd S L F4 G h) Q
   else
    Q (some (vi 0)) (Wd S L F4 G h)))))) : C201_903 x3 (Wd S L F G h) Q := by
  refine pt201 (s' := (904, [some (vr 9999), some (vr 0), some (vr 297), some (vi x3)], [vr 0], (Wd S L F G h))) (by decide) [0] rfl trivial ?_
  refine wp.cl am_m201 rfl am_m91 8 [vr 0] [] rfl (Nat.le_of_ble_eq_true rfl) (Nat.le_of_ble_eq_true rfl) rfl (Nat.le_of_ble_eq_true rfl) rfl (Nat.le_of_ble_eq_true rfl) (Nat.le_of_ble_eq_true rfl) ⟨_, _, rfl, Nat.le_of_ble_eq_true rfl, rfl⟩ ?_
  refine wp.mono H ?_
  rintro v w1 ⟨v1, F2, rfl, rfl, H⟩
  show wp 12 201 (907, [some (vr 9999), some (vr 0), some (vr 297), some (vi x3)], [vi v1], (Wd S L F2 G h)) _
  refine pt201 (s' := (908, [some (vr 9999), some (vr 0), some (vr 297), some (vi x3)], [vr 297, vi v1], (Wd S L F2 G h))) (by decide) [0] rfl trivial ?_
  refine wp.cl am_m201 rfl am_m190 6 [vr 297] [vi v1] rfl (Nat.le_of_ble_eq_true rfl) (Nat.le_of_ble_eq_true rfl) rfl (Nat.le_of_ble_eq_true rfl) rfl (Nat.le_of_ble_eq_true rfl) (Nat.le_of_ble_eq_true rfl) ⟨_, _, rfl, Nat.le_of_ble_eq_true rfl, rfl⟩ ?_
  refine wp.mono H ?_
  rintro v w1 ⟨v3, F4, rfl, rfl, H⟩
  show wp 12 201 (911, [some (vr 9999), some (vr 0), some (vr 297), some (vi x3)], [vi v3, vi v1], (Wd S L F4 G h)) _
  obtain ⟨g5, H⟩ := H
  obtain ⟨g6, H⟩ := H
  by_cases c7 : v1 = v3
  · rw [if_pos c7] at H
    refine pt201 (s' := (18, [some (vr 9999), some (vr 0), some (vr 297), some (vi (x3 + 6))], [], (Wd S L F4 G h))) (by decide) [1, 0, 0] rfl ⟨trivial, ⟨⟨g5, g6⟩, c7⟩⟩ ?_
    exact wp.weak (a := [some (vr 9999), some (vr 0), some (vr 297), some (vi (x3 + 6))]) ⟨rfl, rfl, rfl, rfl, trivial⟩ H
  · rw [if_neg c7] at H
    refine pt201 (s' := (915, [some (vr 9999), some (vr 0), some (vr 297), some (vi x3)], [vi 0], (Wd S L F4 G h))) (by decide) [0, 0] rfl ⟨trivial, ⟨⟨g5, g6⟩, c7⟩⟩ ?_
    exact wp.fin (v := some (vi 0)) (by decide) am_m201 rfl ⟨_, rfl, Or.inr ⟨rfl, Or.inl rfl⟩, rfl⟩ H
set_option maxRecDepth 100000 in
set_option maxHeartbeats 4000000 in
theorem T201_916 {S L : Nat} {F G : Nat → Nat → Int} {h : Nat → Nat → Option Nat} (hh : RfH h) {x3 : Int}  {Q : Option V2 → W2 → Prop}
    (H : (R32 (x3 + 1) ∧
 (0 ≤ (x3 + 1) ∧ (x3 + 1) < (L : Int)) ∧
 R32 (x3 + 2) ∧
 (0 ≤ (x3 + 2) ∧ (x3 + 2) < (L : Int)) ∧
 R32 (x3 + 3) ∧
 (0 ≤ (x3 + 3) ∧ (x3 + 3) < (L : Int)) ∧
 R32 (x3 + 4) ∧
 (0 ≤ (x3 + 4) ∧ (x3 + 4) < (L : Int)) ∧
 C92_0 (F 9999 (x3 + 1).toNat) (F 9999 (x3 + 2).toNat) (F 9999 (x3 + 3).toNat) (F 9999 (x3 + 4).toNat) (Wd S L F G h) (fun v w1 => ∃ (v9 : Int), v = some (vi v9) ∧ w1 = (Wd S L F G h) ∧
  C194_0 (F 9999 (x3 + 1).toNat) (F 9999 (x3 + 2).toNat) (F 9999 (x3 + 3).toNat) (F 9999 (x3 + 4).toNat) (Wd S L F G h) (fun v w1 => ∃ (v10 : Int), v = some (vi v10) ∧ w1 = (Wd S L F G h) ∧
   (R32 v9 ∧
   R32 v10 ∧
   (if v9 = v10 then
    C201_18 (x3 + 6) (Wd S L F G h) Q
   else
    Q (some (vi 0)) (Wd S L F G h))))))) : C201_916 x3 (Wd S L F G h) Q := by
  obtain ⟨g1, H⟩ := H
  obtain ⟨g2, H⟩ := H
  obtain ⟨g3, H⟩ := H
  obtain ⟨g4, H⟩ := H
  obtain ⟨g5, H⟩ := H
  obtain ⟨g6, H⟩ := H
  obtain ⟨g7, H⟩ := H
  obtain ⟨g8, H⟩ := H
  refine pt201 (s' := (937, [some (vr 9999), some (vr 0), some (vr 297), some (vi x3)], [vi (F 9999 (x3 + 4).toNat), vi (F 9999 (x3 + 3).toNat), vi (F 9999 (x3 + 2).toNat), vi (F 9999 (x3 + 1).toNat), vr 0], (Wd S L F G h))) (by decide) [0, 0, 0, 0, 0, 1, 0, 0, 0, 0, 1, 0, 0, 0, 0, 1, 0, 0, 0, 0, 1] rfl ⟨⟨⟨⟨trivial, ⟨rfl, g1, g2.1, g2.2⟩⟩, ⟨rfl, g3, g4.1, g4.2⟩⟩, ⟨rfl, g5, g6.1, g6.2⟩⟩, ⟨rfl, g7, g8.1, g8.2⟩⟩ ?_
  refine wp.cl am_m201 rfl am_m92 9 [vr 0, vi (F 9999 (x3 + 1).toNat), vi (F 9999 (x3 + 2).toNat), vi (F 9999 (x3 + 3).toNat), vi (F 9999 (x3 + 4).toNat)] [] rfl (Nat.le_of_ble_eq_true rfl) (Nat.le_of_ble_eq_true rfl) rfl (Nat.le_of_ble_eq_true rfl) rfl (Nat.le_of_ble_eq_true rfl) (Nat.le_of_ble_eq_true rfl) ⟨_, _, rfl, Nat.le_of_ble_eq_true rfl, rfl⟩ ?_
  refine wp.mono H ?_
  rintro v w1 ⟨v9, rfl, rfl, H⟩
  show wp 12 201 (940, [some (vr 9999), some (vr 0), some (vr 297), some (vi x3)], [vi v9], (Wd S L F G h)) _
  refine pt201 (s' := (961, [some (vr 9999), some (vr 0), some (vr 297), some (vi x3)], [vi (F 9999 (x3 + 4).toNat), vi (F 9999 (x3 + 3).toNat), vi (F 9999 (x3 + 2).toNat), vi (F 9999 (x3 + 1).toNat), vr 297, vi v9], (Wd S L F G h))) (by decide) [0, 0, 0, 0, 0, 1, 0, 0, 0, 0, 1, 0, 0, 0, 0, 1, 0, 0, 0, 0, 1] rfl ⟨⟨⟨⟨trivial, ⟨rfl, g1, g2.1, g2.2⟩⟩, ⟨rfl, g3, g4.1, g4.2⟩⟩, ⟨rfl, g5, g6.1, g6.2⟩⟩, ⟨rfl, g7, g8.1, g8.2⟩⟩ ?_
  refine wp.cl am_m201 rfl am_m194 8 [vr 297, vi (F 9999 (x3 + 1).toNat), vi (F 9999 (x3 + 2).toNat), vi (F 9999 (x3 + 3).toNat), vi (F 9999 (x3 + 4).toNat)] [vi v9] rfl (Nat.le_of_ble_eq_true rfl) (Nat.le_of_ble_eq_true rfl) rfl (Nat.le_of_ble_eq_true rfl) rfl (Nat.le_of_ble_eq_true rfl) (Nat.le_of_ble_eq_true rfl) ⟨_, _, rfl, Nat.le_of_ble_eq_true rfl, rfl⟩ ?_
  refine wp.mono H ?_
  rintro v w1 ⟨v10, rfl, rfl, H⟩
  show wp 12 201 (964, [some (vr 9999), some (vr 0), some (vr 297), some (vi x3)], [vi v10, vi v9], (Wd S L F G h)) _
  obtain ⟨g11, H⟩ := H
  obtain ⟨g12, H⟩ := H
  by_cases c13 : v9 = v10
  · rw [if_pos c13] at H
    refine pt201 (s' := (18, [some (vr 9999), some (vr 0), some (vr 297), some (vi (x3 + 6))], [], (Wd S L F G h))) (by decide) [1, 0, 0] rfl ⟨trivial, ⟨⟨g11, g12⟩, c13⟩⟩ ?_
    exact wp.weak (a := [some (vr 9999), some (vr 0), some (vr 297), some (vi (x3 + 6))]) ⟨rfl, rfl, rfl, rfl, trivial⟩ H
  · rw [if_neg c13] at H
    refine pt201 (s' := (968, [some (vr 9999), some (vr 0), some (vr 297), some (vi x3)], [vi 0], (Wd S L F G h))) (by decide) [0, 0] rfl ⟨trivial, ⟨⟨g11, g12⟩, c13⟩⟩ ?_
    exact wp.fin (v := some (vi 0)) (by decide) am_m201 rfl ⟨_, rfl, Or.inr ⟨rfl, Or.inl rfl⟩, rfl⟩ H
set_option maxRecDepth 100000 in
set_option maxHeartbeats 4000000 in
theorem T201_969 {S L : Nat} {F G : Nat → Nat → Int} {h : Nat → Nat → Option Nat} (hh : RfH h) {x3 : Int}  {Q : Option V2 → W2 → Prop}
    (H : (R32 (x3 + 1) ∧
 (0 ≤ (x3 + 1) ∧ (x3 + 1) < (L : Int)) ∧
 R32 (x3 + 2) ∧
 (0 ≤ (x3 + 2) ∧ (x3 + 2) < (L : Int)) ∧
 R32 (x3 + 3) ∧
 (0 ≤ (x3 + 3) ∧ (x3 + 3) < (L : Int)) ∧
 C93_0 (F 9999 (x3 + 1).toNat) (F 9999 (x3 + 2).toNat) (F 9999 (x3 + 3).toNat) (Wd S L F G h) (fun v w1 => ∃ (v7 : Int) (F8 : Nat → Nat → Int) (G9 : Nat → Nat → Int), v = some (vi v7) ∧ w1 = (Wd S L F8 G9 h) ∧
  C195_0 (F8 9999 (x3 + 1).toNat) (F8 9999 (x3 + 2).toNat) (F8 9999 (x3 + 3).toNat) (Wd S L F8 G9 h) (fun v w1 => ∃ (v10 : Int) (F11 : Nat → Nat → Int) (G12 : Nat → Nat → Int), v = some (vi v10) ∧ w1 = (Wd S L F11 G12 h) ∧
   (R32 v7 ∧
   R32 v10 ∧
   (if v7 = v10 then
    C201_18 (x3 + 6) (Wd S L F11 G12 h) Q
   else
    Q (some (vi 0)) (Wd S L F11 G12 h))))))) : C201_969 x3 (Wd S L F G h) Q := by
  obtain ⟨g1, H⟩ := H
  obtain ⟨g2, H⟩ := H
  obtain ⟨g3, H⟩ := H
  obtain ⟨g4, H⟩ := H
  obtain ⟨g5, H⟩ := H
  obtain ⟨g6, H⟩ := H
  refine pt201 (s' := (985, [some (vr 9999), some (vr 0), some (vr 297), some (vi x3)], [vi (F 9999 (x3 + 3).toNat), vi (F 9999 (x3 + 2).toNat), vi (F 9999 (x3 + 1).toNat), vr 0], (Wd S L F G h))) (by decide) [0, 0, 0, 0, 0, 1, 0, 0, 0, 0, 1, 0, 0, 0, 0, 1] rfl ⟨⟨⟨trivial, ⟨rfl, g1, g2.1, g2.2⟩⟩, ⟨rfl, g3, g4.1, g4.2⟩⟩, ⟨rfl, g5, g6.1, g6.2⟩⟩ ?_
  refine wp.cl am_m201 rfl am_m93 11 [vr 0, vi (F 9999 (x3 + 1).toNat), vi (F 9999 (x3 + 2).toNat), vi (F 9999 (x3 + 3).toNat)] [] rfl (Nat.le_of_ble_eq_true rfl) (Nat.le_of_ble_eq_true rfl) rfl (Nat.le_of_ble_eq_true rfl) rfl (Nat.le_of_ble_eq_true rfl) (Nat.le_of_ble_eq_true rfl) ⟨_, _, rfl, Nat.le_of_ble_eq_true rfl, rfl⟩ ?_
  refine wp.mono H ?_
  rintro v w1 ⟨v7, F8, G9, rfl, rfl, H⟩
  show wp 12 201 (988, [some (vr 9999), some (vr 0), some (vr 297), some (vi x3)], [vi v7], (Wd S L F8 G9 h)) _
  refine pt201 (s' := (1004, [some (vr 9999), some (vr 0), some (vr 297), some (vi x3)], [vi (F8 9999 (x3 + 3).toNat), vi (F8 9999 (x3 + 2).toNat), vi (F8 9999 (x3 + 1).toNat), vr 297, vi v7], (Wd S L F8 G9 h))) (by decide) [0, 0, 0, 0, 0, 1, 0, 0, 0, 0, 1, 0, 0, 0, 0, 1] rfl ⟨⟨⟨trivial, ⟨rfl, g1, g2.1, g2.2⟩⟩, ⟨rfl, g3, g4.1, g4.2⟩⟩, ⟨rfl, g5, g6.1, g6.2⟩⟩ ?_
  refine wp.cl am_m201 rfl am_m195 9 [vr 297, vi (F8 9999 (x3 + 1).toNat), vi (F8 9999 (x3 + 2).toNat), vi (F8 9999 (x3 + 3).toNat)] [vi v7] rfl (Nat.le_of_ble_eq_true rfl) (Nat.le_of_ble_eq_true rfl) rfl (Nat.le_of_ble_eq_true rfl) rfl (Nat.le_of_ble_eq_true rfl) (Nat.le_of_ble_eq_true rfl) ⟨_, _, rfl, Nat.le_of_ble_eq_true rfl, rfl⟩ ?_
  refine wp.mono H ?_
  rintro v w1 ⟨v10, F11, G12, rfl, rfl, H⟩
  show wp 12 201 (1007, [some (vr 9999), some (vr 0), some (vr 297), some (vi x3)], [vi v10, vi v7], (Wd S L F11 G12 h)) _
  obtain ⟨g13, H⟩ := H
  obtain ⟨g14, H⟩ := H
  by_cases c15 : v7 = v10
  · rw [if_pos c15] at H
    refine pt201 (s' := (18, [some (vr 9999), some (vr 0), some (vr 297), some (vi (x3 + 6))], [], (Wd S L F11 G12 h))) (by decide) [1, 0, 0] rfl ⟨trivial, ⟨⟨g13, g14⟩, c15⟩⟩ ?_
    exact wp.weak (a := [some (vr 9999), some (vr 0), some (vr 297), some (vi (x3 + 6))]) ⟨rfl, rfl, rfl, rfl, trivial⟩ H
  · rw [if_neg c15] at H
    refine pt201 (s' := (1011, [some (vr 9999), some (vr 0), some (vr 297), some (vi x3)], [vi 0], (Wd S L F11 G12 h))) (by decide) [0, 0] rfl ⟨trivial, ⟨⟨g13, g14⟩, c15⟩⟩ ?_
    exact wp.fin (v := some (vi 0)) (by decide) am_m201 rfl ⟨_, rfl, Or.inr ⟨rfl, Or.inl rfl⟩, rfl⟩ H
set_option maxRecDepth 100000 in
set_option maxHeartbeats 4000000 in
theorem T201_1012 {S L : Nat} {F G : Nat → Nat → Int} {h : Nat → Nat → Option Nat} (hh : RfH h) {x3 : Int}  {Q : Option V2 → W2 → Prop}
    (H : (R32 (x3 + 1) ∧
 (0 ≤ (x3 + 1) ∧ (x3 + 1) < (L : Int)) ∧
 R32 (x3 + 2) ∧
 (0 ≤ (x3 + 2) ∧ (x3 + 2) < (L : Int)) ∧
 R32 (x3 + 3) ∧
 (0 ≤ (x3 + 3) ∧ (x3 + 3) < (L : Int)) ∧
 C94_0 (F 9999 (x3 + 1).toNat) (F 9999 (x3 + 2).toNat) (F 9999 (x3 + 3).toNat) (Wd S L F G h) (fun v w1 => ∃ (v7 : Int) (F8 : Nat → Nat → Int) (G9 : Nat → Nat → Int), v = some (vi v7) ∧ w1 = (Wd S L F8 G9 h) ∧
  C196_0 (F8 9999 (x3 + 1).toNat) (F8 9999 (x3 + 2).toNat) (F8 9999 (x3 + 3).toNat) (Wd S L F8 G9 h) (fun v w1 => ∃ (v10 : Int) (F11 : Nat → Nat → Int) (G12 : Nat → Nat → Int), v = some (vi v10) ∧ w1 = (Wd S L F11 G12 h) ∧
   (R32 v7 ∧
   R32 v10 ∧
   (if v7 = v10 then
    C201_18 (x3 + 6) (Wd S L F11 G12 h) Q
   else
    Q (some (vi 0)) (Wd S L F11 G12 h))))))) : C201_1012 x3 (Wd S L F G h) Q := by
  obtain ⟨g1, H⟩ := H
  obtain ⟨g2, H⟩ := H
  obtain ⟨g3, H⟩ := H
  obtain ⟨g4, H⟩ := H
  obtain ⟨g5, H⟩ := H
  obtain ⟨g6, H⟩ := H
  refine pt201 (s' := (1028, [some (vr 9999), some (vr 0), some (vr 297), some (vi x3)], [vi (F 9999 (x3 + 3).toNat), vi (F 9999 (x3 + 2).toNat), vi (F 9999 (x3 + 1).toNat), vr 0], (Wd S L F G h))) (by decide) [0, 0, 0, 0, 0, 1, 0, 0, 0, 0, 1, 0, 0, 0, 0, 1] rfl ⟨⟨⟨trivial, ⟨rfl, g1, g2.1, g2.2⟩⟩, ⟨rfl, g3, g4.1, g4.2⟩⟩, ⟨rfl, g5, g6.1, g6.2⟩⟩ ?_
  refine wp.cl am_m201 rfl am_m94 8 [vr 0, vi (F 9999 (x3 + 1).toNat), vi (F 9999 (x3 + 2).toNat), vi (F 9999 (x3 + 3).toNat)] [] rfl (Nat.le_of_ble_eq_true rfl) (Nat.le_of_ble_eq_true rfl) rfl (Nat.le_of_ble_eq_true rfl) rfl (Nat.le_of_ble_eq_true rfl) (Nat.le_of_ble_eq_true rfl) ⟨_, _, rfl, Nat.le_of_ble_eq_true rfl, rfl⟩ ?_
  refine wp.mono H ?_
  rintro v w1 ⟨v7, F8, G9, rfl, rfl, H⟩
  show wp 12 201 (1031, [some (vr 9999), some (vr 0), some (vr 297), some (vi x3)], [vi v7], (Wd S L F8 G9 h)) _
  refine pt201 (s' := (1047, [some (vr 9999), some (vr 0), some (vr 297), some (vi x3)], [vi (F8 9999 (x3 + 3).toNat), vi (F8 9999 (x3 + 2).toNat), vi (F8 9999 (x3 + 1).toNat), vr 297, vi v7], (Wd S L F8 G9 h))) (by decide) [0, 0, 0, 0, 0, 1, 0, 0, 0, 0, 1, 0, 0, 0, 0, 1] rfl ⟨⟨⟨trivial, ⟨rfl, g1, g2.1, g2.2⟩⟩, ⟨rfl, g3, g4.1, g4.2⟩⟩, ⟨rfl, g5, g6.1, g6.2⟩⟩ ?_
  refine wp.cl am_m201 rfl am_m196 8 [vr 297, vi (F8 9999 (x3 + 1).toNat), vi (F8 9999 (x3 + 2).toNat), vi (F8 9999 (x3 + 3).toNat)] [vi v7] rfl (Nat.le_of_ble_eq_true rfl) (Nat.le_of_ble_eq_true rfl) rfl (Nat.le_of_ble_eq_true rfl) rfl (Nat.le_of_ble_eq_true rfl) (Nat.le_of_ble_eq_true rfl) ⟨_, _, rfl, Nat.le_of_ble_eq_true rfl, rfl⟩ ?_
  refine wp.mono H ?_
  rintro v w1 ⟨v10, F11, G12, rfl, rfl, H⟩
  show wp 12 201 (1050, [some (vr 9999), some (vr 0), some (vr 297), some (vi x3)], [vi v10, vi v7], (Wd S L F11 G12 h)) _
  obtain ⟨g13, H⟩ := H
  obtain ⟨g14, H⟩ := H
  by_cases c15 : v7 = v10
  · rw [if_pos c15] at H
    refine pt201 (s' := (18, [some (vr 9999), some (vr 0), some (vr 297), some (vi (x3 + 6))], [], (Wd S L F11 G12 h))) (by decide) [1, 0, 0] rfl ⟨trivial, ⟨⟨g13, g14⟩, c15⟩⟩ ?_
    exact wp.weak (a := [some (vr 9999), some (vr 0), some (vr 297), some (vi (x3 + 6))]) ⟨rfl, rfl, rfl, rfl, trivial⟩ H
  · rw [if_neg c15] at H
    refine pt201 (s' := (1054, [some (vr 9999), some (vr 0), some (vr 297), some (vi x3)], [vi 0], (Wd S L F11 G12 h))) (by decide) [0, 0] rfl ⟨trivial, ⟨⟨g13, g14⟩, c15⟩⟩ ?_
    exact wp.fin (v := some (vi 0)) (by decide) am_m201 rfl ⟨_, rfl, Or.inr ⟨rfl, Or.inl rfl⟩, rfl⟩ H
set_option maxRecDepth 100000 in
set_option maxHeartbeats 4000000 in
theorem T201_1055 {S L : Nat} {F G : Nat → Nat → Int} {h : Nat → Nat → Option Nat} (hh : RfH h) {x3 : Int}  {Q : Option V2 → W2 → Prop}
    (H : (R32 (x3 + 1) ∧
 (0 ≤ (x3 + 1) ∧ (x3 + 1) < (L : Int)) ∧
 C95_0 (F 9999 (x3 + 1).toNat) (Wd S L F G h) (fun v w1 => ∃ (v3 : Int) (F4 : Nat → Nat → Int), v = some (vi v3) ∧ w1 = (Wd S L F4 G h) ∧
  C197_0 (F4 9999 (x3 + 1).toNat) (Wd S L F4 G h) (fun v w1 => ∃ (v5 : Int) (F6 : Nat → Nat → Int), v = some (vi v5) ∧ w1 = (Wd S L F6 G h) ∧
   (R32 v3 ∧
   R32 v5 ∧
   (if v3 = v5 then
    C201_18 (x3 + 6) (Wd S L F6 G h) Q
   else
    Q (some (vi 0)) (Wd S L F6 G h))))))) : C201_1055 x3 (Wd S L F G h) Q := by
  obtain ⟨g1, H⟩ := H
  obtain ⟨g2, H⟩ := H
  refine pt201 (s' := (1061, [some (vr 9999), some (vr 0), some (vr 297), some (vi x3)], [vi (F 9999 (x3 + 1).toNat), vr 0], (Wd S L F G h))) (by decide) [0, 0, 0, 0, 0, 1] rfl ⟨trivial, ⟨rfl, g1, g2.1, g2.2⟩⟩ ?_
  refine wp.cl am_m201 rfl am_m95 8 [vr 0, vi (F 9999 (x3 + 1).toNat)] [] rfl (Nat.le_of_ble_eq_true rfl) (Nat.le_of_ble_eq_true rfl) rfl (Nat.le_of_ble_eq_true rfl) rfl (Nat.le_of_ble_eq_true rfl) (Nat.le_of_ble_eq_true rfl) ⟨_, _, rfl, Nat.le_of_ble_eq_true rfl, rfl⟩ ?_
  refine wp.mono H ?_
  rintro v w1 ⟨v3, F4, rfl, rfl, H⟩
  show wp 12 201 (1064, [some (vr 9999), some (vr 0), some (vr 297), some (vi x3)], [vi v3], (Wd S L F4 G h)) _
  refine pt201 (s' := (1070, [some (vr 9999), some (vr 0), some (vr 297), some (vi x3)], [vi (F4 9999 (x3 + 1).toNat), vr 297, vi v3], (Wd S L F4 G h))) (by decide) [0, 0, 0, 0, 0, 1] rfl ⟨trivial, ⟨rfl, g1, g2.1, g2.2⟩⟩ ?_
  refine wp.cl am_m201 rfl am_m197 8 [vr 297, vi (F4 9999 (x3 + 1).toNat)] [vi v3] rfl (Nat.le_of_ble_eq_true rfl) (Nat.le_of_ble_eq_true rfl) rfl (Nat.le_of_ble_eq_true rfl) rfl (Nat.le_of_ble_eq_true rfl) (Nat.le_of_ble_eq_true rfl) ⟨_, _, rfl, Nat.le_of_ble_eq_true rfl, rfl⟩ ?_
  refine wp.mono H ?_
  rintro v w1 ⟨v5, F6, rfl, rfl, H⟩
  show wp 12 201 (1073, [some (vr 9999), some (vr 0), some (vr 297), some (vi x3)], [vi v5, vi v3], (Wd S L F6 G h)) _
  obtain ⟨g7, H⟩ := H
  obtain ⟨g8, H⟩ := H
  by_cases c9 : v3 = v5
  · rw [if_pos c9] at H
    refine pt201 (s' := (18, [some (vr 9999), some (vr 0), some (vr 297), some (vi (x3 + 6))], [], (Wd S L F6 G h))) (by decide) [1, 0, 0] rfl ⟨trivial, ⟨⟨g7, g8⟩, c9⟩⟩ ?_
    exact wp.weak (a := [some (vr 9999), some (vr 0), some (vr 297), some (vi (x3 + 6))]) ⟨rfl, rfl, rfl, rfl, trivial⟩ H
  · rw [if_neg c9] at H
    refine pt201 (s' := (1077, [some (vr 9999), some (vr 0), some (vr 297), some (vi x3)], [vi 0], (Wd S L F6 G h))) (by decide) [0, 0] rfl ⟨trivial, ⟨⟨g7, g8⟩, c9⟩⟩ ?_
    exact wp.fin (v := some (vi 0)) (by decide) am_m201 rfl ⟨_, rfl, Or.inr ⟨rfl, Or.inl rfl⟩, rfl⟩ H
set_option maxRecDepth 100000 in
set_option maxHeartbeats 4000000 in
theorem T201_1078 {S L : Nat} {F G : Nat → Nat → Int} {h : Nat → Nat → Option Nat} (hh : RfH h) {x3 : Int}  {Q : Option V2 → W2 → Prop}
    (H : (R32 (x3 + 1) ∧
 (0 ≤ (x3 + 1) ∧ (x3 + 1) < (L : Int)) ∧
 R32 (x3 + 2) ∧
 (0 ≤ (x3 + 2) ∧ (x3 + 2) < (L : Int)) ∧
 R32 (x3 + 3) ∧
 (0 ≤ (x3 + 3) ∧ (x3 + 3) < (L : Int)) ∧
 R32 (x3 + 4) ∧
 (0 ≤ (x3 + 4) ∧ (x3 + 4) < (L : Int)) ∧
 R32 (F 9999 (x3 + 4).toNat) ∧
 R32 (x3 + 5) ∧
 (0 ≤ (x3 + 5) ∧ (x3 + 5) < (L : Int)) ∧
 R32 (F 9999 (x3 + 5).toNat) ∧
 C96_0 (F 9999 (x3 + 1).toNat) (F 9999 (x3 + 2).toNat) (F 9999 (x3 + 3).toNat) ((Int64.ofInt ((Int64.ofInt (F 9999 (x3 + 4).toNat) <<< ((Int32.ofInt 32).toInt64 &&& 63)).toInt) ||| Int64.ofInt ((Int64.ofInt (F 9999 (x3 + 5).toNat) &&& Int64.ofInt 4294967295).toInt)).toInt) (Wd S L F G h) (fun v w1 => ∃ (v13 : Int) (G14 : Nat → Nat → Int), v = some (vi v13) ∧ w1 = (Wd S L F G14 h) ∧
  C198_0 (F 9999 (x3 + 1).toNat) (F 9999 (x3 + 2).toNat) (F 9999 (x3 + 3).toNat) ((Int64.ofInt ((Int64.ofInt (F 9999 (x3 + 4).toNat) <<< ((Int32.ofInt 32).toInt64 &&& 63)).toInt) ||| Int64.ofInt ((Int64.ofInt (F 9999 (x3 + 5).toNat) &&& Int64.ofInt 4294967295).toInt)).toInt) (Wd S L F G14 h) (fun v w1 => ∃ (v15 : Int) (G16 : Nat → Nat → Int), v = some (vi v15) ∧ w1 = (Wd S L F G16 h) ∧
   (R32 v13 ∧
   R32 v15 ∧
   (if v13 = v15 then
    C201_18 (x3 + 6) (Wd S L F G16 h) Q
   else
    Q (some (vi 0)) (Wd S L F G16 h))))))) : C201_1078 x3 (Wd S L F G h) Q := by
  obtain ⟨g1, H⟩ := H
  obtain ⟨g2, H⟩ := H
  obtain ⟨g3, H⟩ := H
  obtain ⟨g4, H⟩ := H
  obtain ⟨g5, H⟩ := H
  obtain ⟨g6, H⟩ := H
  obtain ⟨g7, H⟩ := H
  obtain ⟨g8, H⟩ := H
  obtain ⟨g9, H⟩ := H
  obtain ⟨g10, H⟩ := H
  obtain ⟨g11, H⟩ := H
  obtain ⟨g12, H⟩ := H
  refine pt201 (s' := (1114, [some (vr 9999), some (vr 0), some (vr 297), some (vi x3)], [vj ((Int64.ofInt ((Int64.ofInt (F 9999 (x3 + 4).toNat) <<< ((Int32.ofInt 32).toInt64 &&& 63)).toInt) ||| Int64.ofInt ((Int64.ofInt (F 9999 (x3 + 5).toNat) &&& Int64.ofInt 4294967295).toInt)).toInt), vi (F 9999 (x3 + 3).toNat), vi (F 9999 (x3 + 2).toNat), vi (F 9999 (x3 + 1).toNat), vr 0], (Wd S L F G h))) (by decide) [0, 0, 0, 0, 0, 1, 0, 0, 0, 0, 1, 0, 0, 0, 0, 1, 0, 0, 0, 0, 1, 0, 0, 0, 0, 0, 0, 0, 1, 0, 0, 0, 0] rfl ⟨⟨⟨⟨⟨⟨⟨trivial, ⟨rfl, g1, g2.1, g2.2⟩⟩, ⟨rfl, g3, g4.1, g4.2⟩⟩, ⟨rfl, g5, g6.1, g6.2⟩⟩, ⟨rfl, g7, g8.1, g8.2⟩⟩, g9⟩, ⟨rfl, g10, g11.1, g11.2⟩⟩, g12⟩ ?_
  refine wp.cl am_m201 rfl am_m96 9 [vr 0, vi (F 9999 (x3 + 1).toNat), vi (F 9999 (x3 + 2).toNat), vi (F 9999 (x3 + 3).toNat), vj ((Int64.ofInt ((Int64.ofInt (F 9999 (x3 + 4).toNat) <<< ((Int32.ofInt 32).toInt64 &&& 63)).toInt) ||| Int64.ofInt ((Int64.ofInt (F 9999 (x3 + 5).toNat) &&& Int64.ofInt 4294967295).toInt)).toInt)] [] rfl (Nat.le_of_ble_eq_true rfl) (Nat.le_of_ble_eq_true rfl) rfl (Nat.le_of_ble_eq_true rfl) rfl (Nat.le_of_ble_eq_true rfl) (Nat.le_of_ble_eq_true rfl) ⟨_, _, rfl, Nat.le_of_ble_eq_true rfl, rfl⟩ ?_
  refine wp.mono H ?_
  rintro v w1 ⟨v13, G14, rfl, rfl, H⟩
  show wp 12 201 (1117, [some (vr 9999), some (vr 0), some (vr 297), some (vi x3)], [vi v13], (Wd S L F G14 h)) _
  refine pt201 (s' := (1153, [some (vr 9999), some (vr 0), some (vr 297), some (vi x3)], [vj ((Int64.ofInt ((Int64.ofInt (F 9999 (x3 + 4).toNat) <<< ((Int32.ofInt 32).toInt64 &&& 63)).toInt) ||| Int64.ofInt ((Int64.ofInt (F 9999 (x3 + 5).toNat) &&& Int64.ofInt 4294967295).toInt)).toInt), vi (F 9999 (x3 + 3).toNat), vi (F 9999 (x3 + 2).toNat), vi (F 9999 (x3 + 1).toNat), vr 297, vi v13], (Wd S L F G14 h))) (by decide) [0, 0, 0, 0, 0, 1, 0, 0, 0, 0, 1, 0, 0, 0, 0, 1, 0, 0, 0, 0, 1, 0, 0, 0, 0, 0, 0, 0, 1, 0, 0, 0, 0] rfl ⟨⟨⟨⟨⟨⟨⟨trivial, ⟨rfl, g1, g2.1, g2.2⟩⟩, ⟨rfl, g3, g4.1, g4.2⟩⟩, ⟨rfl, g5, g6.1, g6.2⟩⟩, ⟨rfl, g7, g8.1, g8.2⟩⟩, g9⟩, ⟨rfl, g10, g11.1, g11.2⟩⟩, g12⟩ ?_
  refine wp.cl am_m201 rfl am_m198 8 [vr 297, vi (F 9999 (x3 + 1).toNat), vi (F 9999 (x3 + 2).toNat), vi (F 9999 (x3 + 3).toNat), vj ((Int64.ofInt ((Int64.ofInt (F 9999 (x3 + 4).toNat) <<< ((Int32.ofInt 32).toInt64 &&& 63)).toInt) ||| Int64.ofInt ((Int64.ofInt (F 9999 (x3 + 5).toNat) &&& Int64.ofInt 4294967295).toInt)).toInt)] [vi v13] rfl (Nat.le_of_ble_eq_true rfl) (Nat.le_of_ble_eq_true rfl) rfl (Nat.le_of_ble_eq_true rfl) rfl (Nat.le_of_ble_eq_true rfl) (Nat.le_of_ble_eq_true rfl) ⟨_, _, rfl, Nat.le_of_ble_eq_true rfl, rfl⟩ ?_
  refine wp.mono H ?_
  rintro v w1 ⟨v15, G16, rfl, rfl, H⟩
  show wp 12 201 (1156, [some (vr 9999), some (vr 0), some (vr 297), some (vi x3)], [vi v15, vi v13], (Wd S L F G16 h)) _
  obtain ⟨g17, H⟩ := H
  obtain ⟨g18, H⟩ := H
  by_cases c19 : v13 = v15
  · rw [if_pos c19] at H
    refine pt201 (s' := (18, [some (vr 9999), some (vr 0), some (vr 297), some (vi (x3 + 6))], [], (Wd S L F G16 h))) (by decide) [1, 0, 0] rfl ⟨trivial, ⟨⟨g17, g18⟩, c19⟩⟩ ?_
    exact wp.weak (a := [some (vr 9999), some (vr 0), some (vr 297), some (vi (x3 + 6))]) ⟨rfl, rfl, rfl, rfl, trivial⟩ H
  · rw [if_neg c19] at H
    refine pt201 (s' := (1160, [some (vr 9999), some (vr 0), some (vr 297), some (vi x3)], [vi 0], (Wd S L F G16 h))) (by decide) [0, 0] rfl ⟨trivial, ⟨⟨g17, g18⟩, c19⟩⟩ ?_
    exact wp.fin (v := some (vi 0)) (by decide) am_m201 rfl ⟨_, rfl, Or.inr ⟨rfl, Or.inl rfl⟩, rfl⟩ H
set_option maxRecDepth 100000 in
set_option maxHeartbeats 4000000 in
theorem T201_1161 {S L : Nat} {F G : Nat → Nat → Int} {h : Nat → Nat → Option Nat} (hh : RfH h) {x3 : Int}  {Q : Option V2 → W2 → Prop}
    (H : (R32 (x3 + 1) ∧
 (0 ≤ (x3 + 1) ∧ (x3 + 1) < (L : Int)) ∧
 R32 (x3 + 2) ∧
 (0 ≤ (x3 + 2) ∧ (x3 + 2) < (L : Int)) ∧
 R32 (x3 + 3) ∧
 (0 ≤ (x3 + 3) ∧ (x3 + 3) < (L : Int)) ∧
 R32 (x3 + 4) ∧
 (0 ≤ (x3 + 4) ∧ (x3 + 4) < (L : Int)) ∧
 R32 (x3 + 5) ∧
 (0 ≤ (x3 + 5) ∧ (x3 + 5) < (L : Int)) ∧
 C97_0 (F 9999 (x3 + 1).toNat) (F 9999 (x3 + 2).toNat) (F 9999 (x3 + 3).toNat) (F 9999 (x3 + 4).toNat) (F 9999 (x3 + 5).toNat) (Wd S L F G h) (fun v w1 => ∃ (v11 : Int) (G12 : Nat → Nat → Int), v = some (vi v11) ∧ w1 = (Wd S L F G12 h) ∧
  C199_0 (F 9999 (x3 + 1).toNat) (F 9999 (x3 + 2).toNat) (F 9999 (x3 + 3).toNat) (F 9999 (x3 + 4).toNat) (F 9999 (x3 + 5).toNat) (Wd S L F G12 h) (fun v w1 => ∃ (v13 : Int) (G14 : Nat → Nat → Int), v = some (vi v13) ∧ w1 = (Wd S L F G14 h) ∧
   (R32 v11 ∧
   R32 v13 ∧
   (if v11 = v13 then
    C201_18 (x3 + 6) (Wd S L F G14 h) Q
   else
    Q (some (vi 0)) (Wd S L F G14 h))))))) : C201_1161 x3 (Wd S L F G h) Q := by
  obtain ⟨g1, H⟩ := H
  obtain ⟨g2, H⟩ := H
  obtain ⟨g3, H⟩ := H
  obtain ⟨g4, H⟩ := H
  obtain ⟨g5, H⟩ := H
  obtain ⟨g6, H⟩ := H
  obtain ⟨g7, H⟩ := H
  obtain ⟨g8, H⟩ := H
  obtain ⟨g9, H⟩ := H
  obtain ⟨g10, H⟩ := H
  refine pt201 (s' := (1187, [some (vr 9999), some (vr 0), some (vr 297), some (vi x3)], [vi (F 9999 (x3 + 5).toNat), vi (F 9999 (x3 + 4).toNat), vi (F 9999 (x3 + 3).toNat), vi (F 9999 (x3 + 2).toNat), vi (F 9999 (x3 + 1).toNat), vr 0], (Wd S L F G h))) (by decide) [0, 0, 0, 0, 0, 1, 0, 0, 0, 0, 1, 0, 0, 0, 0, 1, 0, 0, 0, 0, 1, 0, 0, 0, 0, 1] rfl ⟨⟨⟨⟨⟨trivial, ⟨rfl, g1, g2.1, g2.2⟩⟩, ⟨rfl, g3, g4.1, g4.2⟩⟩, ⟨rfl, g5, g6.1, g6.2⟩⟩, ⟨rfl, g7, g8.1, g8.2⟩⟩, ⟨rfl, g9, g10.1, g10.2⟩⟩ ?_
  refine wp.cl am_m201 rfl am_m97 8 [vr 0, vi (F 9999 (x3 + 1).toNat), vi (F 9999 (x3 + 2).toNat), vi (F 9999 (x3 + 3).toNat), vi (F 9999 (x3 + 4).toNat), vi (F 9999 (x3 + 5).toNat)] [] rfl (Nat.le_of_ble_eq_true rfl) (Nat.le_of_ble_eq_true rfl) rfl (Nat.le_of_ble_eq_true rfl) rfl (Nat.le_of_ble_eq_true rfl) (Nat.le_of_ble_eq_true rfl) ⟨_, _, rfl, Nat.le_of_ble_eq_true rfl, rfl⟩ ?_
  refine wp.mono H ?_
  rintro v w1 ⟨v11, G12, rfl, rfl, H⟩
  show wp 12 201 (1190, [some (vr 9999), some (vr 0), some (vr 297), some (vi x3)], [vi v11], (Wd S L F G12 h)) _
  refine pt201 (s' := (1216, [some (vr 9999), some (vr 0), some (vr 297), some (vi x3)], [vi (F 9999 (x3 + 5).toNat), vi (F 9999 (x3 + 4).toNat), vi (F 9999 (x3 + 3).toNat), vi (F 9999 (x3 + 2).toNat), vi (F 9999 (x3 + 1).toNat), vr 297, vi v11], (Wd S L F G12 h))) (by decide) [0, 0, 0, 0, 0, 1, 0, 0, 0, 0, 1, 0, 0, 0, 0, 1, 0, 0, 0, 0, 1, 0, 0, 0, 0, 1] rfl ⟨⟨⟨⟨⟨trivial, ⟨rfl, g1, g2.1, g2.2⟩⟩, ⟨rfl, g3, g4.1, g4.2⟩⟩, ⟨rfl, g5, g6.1, g6.2⟩⟩, ⟨rfl, g7, g8.1, g8.2⟩⟩, ⟨rfl, g9, g10.1, g10.2⟩⟩ ?_
  refine wp.cl am_m201 rfl am_m199 8 [vr 297, vi (F 9999 (x3 + 1).toNat), vi (F 9999 (x3 + 2).toNat), vi (F 9999 (x3 + 3).toNat), vi (F 9999 (x3 + 4).toNat), vi (F 9999 (x3 + 5).toNat)] [vi v11] rfl (Nat.le_of_ble_eq_true rfl) (Nat.le_of_ble_eq_true rfl) rfl (Nat.le_of_ble_eq_true rfl) rfl (Nat.le_of_ble_eq_true rfl) (Nat.le_of_ble_eq_true rfl) ⟨_, _, rfl, Nat.le_of_ble_eq_true rfl, rfl⟩ ?_
  refine wp.mono H ?_
  rintro v w1 ⟨v13, G14, rfl, rfl, H⟩
  show wp 12 201 (1219, [some (vr 9999), some (vr 0), some (vr 297), some (vi x3)], [vi v13, vi v11], (Wd S L F G14 h)) _
  obtain ⟨g15, H⟩ := H
  obtain ⟨g16, H⟩ := H
  by_cases c17 : v11 = v13
  · rw [if_pos c17] at H
    refine pt201 (s' := (18, [some (vr 9999), some (vr 0), some (vr 297), some (vi (x3 + 6))], [], (Wd S L F G14 h))) (by decide) [1, 0, 0] rfl ⟨trivial, ⟨⟨g15, g16⟩, c17⟩⟩ ?_
    exact wp.weak (a := [some (vr 9999), some (vr 0), some (vr 297), some (vi (x3 + 6))]) ⟨rfl, rfl, rfl, rfl, trivial⟩ H
  · rw [if_neg c17] at H
    refine pt201 (s' := (1223, [some (vr 9999), some (vr 0), some (vr 297), some (vi x3)], [vi 0], (Wd S L F G14 h))) (by decide) [0, 0] rfl ⟨trivial, ⟨⟨g15, g16⟩, c17⟩⟩ ?_
    exact wp.fin (v := some (vi 0)) (by decide) am_m201 rfl ⟨_, rfl, Or.inr ⟨rfl, Or.inl rfl⟩, rfl⟩ H
