/-! told, letter, type, seed, undo, image, restore -/
section OPS
variable {S L : Nat} {F G : Nat → Nat → Int} {h : Nat → Nat → Option Nat} {Q : Option V2 → W2 → Prop}
def sTold (r : Row) (s w : Int) : Int := if 0 ≤ s ∧ s ≤ 11 then (if w = 0 then r (22 + s.toNat) else if w = 1 then r (34 + s.toNat) else if w = 2 then r (6 + (r (22 + s.toNat)).toNat) else if w = 3 then r (14 + (r (22 + s.toNat)).toNat) else if w = 4 then (if r (6 + (r (22 + s.toNat)).toNat) = 0 then 1 else 0) else -1) else -1
theorem R32_sTold {r : Row} (v : Yvd r) (s w : Int) : R32 (sTold r s w) := by
  unfold sTold
  split
  · rename_i hs
    have h1 := v.sh s.toNat (by omega)
    have h2 := v.pu s.toNat (by omega)
    have h3 := v.op (r (22 + s.toNat)).toNat (by omega)
    have h4 := v.wd (r (22 + s.toNat)).toNat (by omega)
    repeat' split
    all_goals first | omega | exact r32m1
  · exact r32m1
theorem K25 (hh : RfH h) {r : Row} (t : Ytk F 1 r) (v : Yvd r) {s a : Int} (hs : 0 ≤ s ∧ s < 12) (ra : R32 a) (H : Q (some (vi (if a = 0 then r (6 + (r (22 + s.toNat)).toNat) else r (14 + (r (22 + s.toNat)).toNat)))) (Wd S L F G h)) : C25_0 s a (Wd S L F G h) Q := by
  have h1 := v.sh s.toNat (by omega)
  have e1 := t.sh1 s.toNat (by omega)
  have e2 := t.op1 (r (22 + s.toNat)).toNat (by omega)
  have e3 := t.wd1 (r (22 + s.toNat)).toNat (by omega)
  refine T25_0 hh ⟨ra, ?_⟩
  rw [e1, e2, e3]
  split
  · rename_i ha
    rw [if_pos ha] at H
    exact ⟨by omega, by omega, H⟩
  · rename_i ha
    rw [if_neg ha] at H
    exact ⟨by omega, by omega, H⟩
theorem K72 (hh : RfH h) {r : Row} (t : Ytk F 1 r) (v : Yvd r) {s w : Int} (rs : R32 s) (rw' : R32 w) (H : ∀ x, x = sTold r s w → Q (some (vi x)) (Wd S L F G h)) : C72_0 s w (Wd S L F G h) Q := by
  refine T72_0 hh ⟨rs, ?_⟩
  split
  · exact H _ (by unfold sTold; rw [if_neg (by omega)])
  split
  · exact H _ (by unfold sTold; rw [if_neg (by omega)])
  have h1 := v.sh s.toNat (by omega)
  have e1 := t.sh1 s.toNat (by omega)
  have e4 := t.pu1 s.toNat (by omega)
  have e2 := t.op1 (r (22 + s.toNat)).toNat (by omega)
  have h2 := v.op (r (22 + s.toNat)).toNat (by omega)
  have hin : 0 ≤ s ∧ s ≤ 11 := by omega
  refine ⟨rw', ?_⟩
  split
  · rename_i c0
    exact ⟨by omega, H _ (by unfold sTold; rw [if_pos hin, if_pos c0, e1])⟩
  rename_i c0
  split
  · rename_i c1
    exact ⟨by omega, H _ (by unfold sTold; rw [if_pos hin, if_neg c0, if_pos c1, e4])⟩
  rename_i c1
  split
  · rename_i c2
    exact K25 hh t v (by omega) (by decide) ⟨_, rfl, rfl, H _ (by unfold sTold; rw [if_pos hin, if_neg c0, if_neg c1, if_pos c2, if_pos rfl])⟩
  rename_i c2
  split
  · rename_i c3
    exact K25 hh t v (by omega) (by decide) ⟨_, rfl, rfl, H _ (by unfold sTold; rw [if_pos hin, if_neg c0, if_neg c1, if_neg c2, if_pos c3, if_neg (by decide)])⟩
  rename_i c3
  split
  · rename_i c4
    rw [e1, e2]
    refine ⟨by omega, by omega, by omega, ?_⟩
    split
    · rename_i c5
      exact H _ (by unfold sTold; rw [if_pos hin, if_neg c0, if_neg c1, if_neg c2, if_neg c3, if_pos c4, if_pos c5])
    · rename_i c5
      exact H _ (by unfold sTold; rw [if_pos hin, if_neg c0, if_neg c1, if_neg c2, if_neg c3, if_pos c4, if_neg c5])
  · rename_i c4
    exact H _ (by unfold sTold; rw [if_pos hin, if_neg c0, if_neg c1, if_neg c2, if_neg c3, if_neg c4])
def sLetter (r : Row) (j k : Int) : Int := if 0 ≤ j ∧ j < r 1 ∧ 0 ≤ k then (if k < r (71 + 8 * j.toNat) then r (72 + 8 * j.toNat + k.toNat) else -4) else -1
theorem R32_sLetter {r : Row} (v : Yvd r) (j k : Int) : R32 (sLetter r j k) := by
  have hw := v.w
  unfold sLetter
  split
  · rename_i hs
    split
    · have h1 := v.sz j.toNat (by omega)
      have h2 := v.lt j.toNat (by omega) k.toNat (by omega)
      omega
    · decide
  · exact r32m1
theorem K83 (hh : RfH h) {r : Row} (t : Ytk F 1 r) (v : Yvd r) {j k : Int} (rj : R32 j) (rk : R32 k) (H : ∀ x, x = sLetter r j k → Q (some (vi x)) (Wd S L F G h)) : C83_0 j k (Wd S L F G h) Q := by
  have hw := v.w
  have ew := t.w1
  refine T83_0 hh ⟨rj, ?_⟩
  rw [ew]
  split
  · exact H _ (by unfold sLetter; rw [if_neg (by omega)])
  refine ⟨by omega, ?_⟩
  split
  · exact H _ (by unfold sLetter; rw [if_neg (by omega)])
  refine ⟨rk, ?_⟩
  split
  · have e1 := t.sz1 j.toNat (by omega)
    have h1 := v.sz j.toNat (by omega)
    rw [e1]
    refine ⟨by omega, by omega, ?_⟩
    split
    · exact H _ (by unfold sLetter; rw [if_pos (by omega), if_neg (by omega)])
    · have e2 := t.lt1 j.toNat (by omega) k.toNat (by omega) (by omega)
      exact ⟨by omega, H _ (by unfold sLetter; rw [if_pos (by omega), if_pos (by omega), e2])⟩
  · exact H _ (by unfold sLetter; rw [if_neg (by omega)])
theorem Yim.q {m : Int} {ri : Row} {Ri : Nat → Row} (c : Yim F h m ri Ri) : ∃ q, Ysth h 165 q := by
  rcases c with ⟨c1, c2, q, c3⟩ | ⟨c1, c2, c3, ni, q, c4, c5, c6⟩
  · exact ⟨q, c3⟩
  · exact ⟨q, c5⟩
end OPS
