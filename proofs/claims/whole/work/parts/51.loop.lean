/-! the law's loop -/
section LOOP
variable {S L : Nat} {Q : Option V2 → W2 → Prop} {xs : Nat → Int}
theorem law_loop (hL : L ≤ 3072) (HQ : ∀ (F G : Nat → Nat → Int) (h : Nat → Nat → Option Nat), Inv F G h xs → Q (some (vi 1)) (Wd S L F G h)) : ∀ (m : Nat) (x3 : Int) (F G : Nat → Nat → Int) (h : Nat → Nat → Option Nat), 0 ≤ x3 → x3 ≤ (L : Int) → (L : Int) - x3 ≤ (m : Int) → Inv F G h xs → C201_18 x3 (Wd S L F G h) Q := by
  intro m
  induction m with
  | zero =>
    intro x3 F G h h0 h1 h2 I
    refine T201_18 I.1 ⟨by omega, by omega, ?_⟩
    rw [if_pos (by omega)]
    exact HQ F G h I
  | succ m ih =>
    intro x3 F G h h0 h1 h2 I
    refine T201_18 I.1 ⟨by omega, by omega, ?_⟩
    by_cases g : (L : Int) - 6 < x3
    · rw [if_pos g]
      exact HQ F G h I
    rw [if_neg g]
    have hx : 0 ≤ x3 ∧ x3 + 6 ≤ (L : Int) := by omega
    have K : ∀ (F' G' : Nat → Nat → Int) (h' : Nat → Nat → Option Nat), Inv F' G' h' xs → C201_18 (x3 + 6) (Wd S L F' G' h') Q := fun F' G' h' I' => ih (x3 + 6) F' G' h' (by omega) (by omega) (by omega) I'
    refine ⟨by omega, r32_toInt _, ?_⟩
    generalize (Int32.ofInt (F 9999 x3.toNat) &&& Int32.ofInt 31).toInt = v
    by_cases c0 : v = 0
    · rw [if_pos c0]
      exact O176 I hx hL K
    rw [if_neg c0]
    by_cases c1 : v = 1
    · rw [if_pos c1]
      exact O219 I hx hL K
    rw [if_neg c1]
    by_cases c2 : v = 2
    · rw [if_pos c2]
      exact O262 I hx hL K
    rw [if_neg c2]
    by_cases c3 : v = 3
    · rw [if_pos c3]
      exact O295 I hx hL K
    rw [if_neg c3]
    by_cases c4 : v = 4
    · rw [if_pos c4]
      exact O318 I hx hL K
    rw [if_neg c4]
    by_cases c5 : v = 5
    · rw [if_pos c5]
      exact O351 I hx hL K
    rw [if_neg c5]
    by_cases c6 : v = 6
    · rw [if_pos c6]
      exact O374 I hx hL K
    rw [if_neg c6]
    by_cases c7 : v = 7
    · rw [if_pos c7]
      exact O407 I hx hL K
    rw [if_neg c7]
    by_cases c8 : v = 8
    · rw [if_pos c8]
      exact O440 I hx hL K
    rw [if_neg c8]
    by_cases c9 : v = 9
    · rw [if_pos c9]
      exact O473 I hx hL K
    rw [if_neg c9]
    by_cases c10 : v = 10
    · rw [if_pos c10]
      exact O496 I hx hL K
    rw [if_neg c10]
    by_cases c11 : v = 11
    · rw [if_pos c11]
      exact O539 I hx hL K
    rw [if_neg c11]
    by_cases c12 : v = 12
    · rw [if_pos c12]
      exact O583 I hx hL K
    rw [if_neg c12]
    by_cases c13 : v = 13
    · rw [if_pos c13]
      exact O617 I hx hL K
    rw [if_neg c13]
    by_cases c14 : v = 14
    · rw [if_pos c14]
      exact O650 I hx hL K
    rw [if_neg c14]
    by_cases c15 : v = 15
    · rw [if_pos c15]
      exact O683 I hx hL K
    rw [if_neg c15]
    by_cases c16 : v = 16
    · rw [if_pos c16]
      exact O706 I hx hL K
    rw [if_neg c16]
    by_cases c17 : v = 17
    · rw [if_pos c17]
      exact O739 I hx hL K
    rw [if_neg c17]
    by_cases c18 : v = 18
    · rw [if_pos c18]
      exact O772 I hx hL K
    rw [if_neg c18]
    by_cases c19 : v = 19
    · rw [if_pos c19]
      exact O795 I hx hL K
    rw [if_neg c19]
    by_cases c20 : v = 20
    · rw [if_pos c20]
      exact O818 I hx hL K
    rw [if_neg c20]
    by_cases c21 : v = 21
    · rw [if_pos c21]
      exact O831 I hx hL K
    rw [if_neg c21]
    by_cases c22 : v = 22
    · rw [if_pos c22]
      exact O854 I hx hL K
    rw [if_neg c22]
    by_cases c23 : v = 23
    · rw [if_pos c23]
      exact O867 I hx hL K
    rw [if_neg c23]
    by_cases c24 : v = 24
    · rw [if_pos c24]
      exact O890 I hx hL K
    rw [if_neg c24]
    by_cases c25 : v = 25
    · rw [if_pos c25]
      exact O903 I hx hL K
    rw [if_neg c25]
    by_cases c26 : v = 26
    · rw [if_pos c26]
      exact O916 I hx hL K
    rw [if_neg c26]
    by_cases c27 : v = 27
    · rw [if_pos c27]
      exact O969 I hx hL K
    rw [if_neg c27]
    by_cases c28 : v = 28
    · rw [if_pos c28]
      exact O1012 I hx hL K
    rw [if_neg c28]
    by_cases c29 : v = 29
    · rw [if_pos c29]
      exact O1055 I hx hL K
    rw [if_neg c29]
    by_cases c30 : v = 30
    · rw [if_pos c30]
      exact O1078 I hx hL K
    rw [if_neg c30]
    by_cases c31 : v = 31
    · rw [if_pos c31]
      exact O1161 I hx hL K
    rw [if_neg c31]
    exact K F G h I
end LOOP
