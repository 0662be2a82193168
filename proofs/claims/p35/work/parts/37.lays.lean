/-! the reference's frames -/
section LAYS
variable {S L : Nat} {F G : Nat → Nat → Int} {h : Nat → Nat → Option Nat} {Q : Option V2 → W2 → Prop}
def Ylay (F : Nat → Nat → Int) (r : Row) : Prop := ∀ i, i < yn r → F 307 i = yfr' r i ∧ F 308 i = yln r i ∧ F 309 i = ylo r i
/-- holds in the reference's cells -/
def YmI (F F1 : Nat → Nat → Int) (q : Nat → Int) (k : Nat) : Prop := F1 297 15 = (yhs q k).1 ∧ F1 297 16 = (yhs q k).2.2.1 ∧ F1 297 17 = (if k = 0 then -4 else (yhs q k).2.2.2) ∧ (∀ j, j ≠ 15 → j ≠ 16 → j ≠ 17 → F1 297 j = F 297 j) ∧ (∀ p, p ≠ 297 → F1 p = F p)
end LAYS
