/-! read: a number of the reference; lines -/
section LINES
variable {S L : Nat} {F G : Nat → Nat → Int} {h : Nat → Nat → Option Nat} {Q : Option V2 → W2 → Prop} {tp : Nat → Int} {N : Nat}
end LINES
