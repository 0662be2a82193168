/-! told, letter, type, seed, undo, image, restore -/
section OPS
variable {S L : Nat} {F G : Nat → Nat → Int} {h : Nat → Nat → Option Nat} {Q : Option V2 → W2 → Prop}
theorem Inv.row {xs : Nat → Int} (I : Inv F G h xs) : Ytk F 1 (F 298) ∧ Yvd (F 298) := by
  obtain ⟨n, e2, c⟩ := I.2.1
  exact ⟨c.1, c.2.1⟩
theorem Inv.r32 {xs : Nat → Int} (I : Inv F G h xs) (k : Nat) : R32 (F 9999 k) := by rw [I.2.2.2.2.2.1 k]; exact I.2.2.2.2.2.2 k
/-- nothing that the invariant speaks of has changed -/
theorem Inv.same {xs : Nat → Int} (I : Inv F G h xs) {F' : Nat → Nat → Int} (e1 : ∀ p, p < 275 ∨ p = 285 ∨ (288 ≤ p ∧ p < 297) ∨ (298 ≤ p ∧ p < 306) ∨ 313 ≤ p → F' p = F p) (e2 : ∀ k, k = 2 ∨ k = 5 ∨ k = 7 → F' 297 k = F 297 k) (e3 : F' 284 1 = F 284 1) : Inv F' G h xs := by
  obtain ⟨i0, ⟨n, i1, i1c⟩, i2, i3, i4, i5, i6⟩ := I
  refine ⟨i0, ⟨n, by rw [e2 2 (by omega)]; exact i1, i1c.cong (fun p h1 h2 => e1 p (by omega)) (fun k hk => by rw [e1 298 (by omega)]) (fun i hi k hk => by unfold mR; rw [e1 299 (by omega)])⟩, ?_, ?_, ?_, ?_, i6⟩
  · rw [e2 5 (by omega)]
    exact i2.cong (by rw [e1 0 (by omega)]) (fun p h1 h2 => e1 p (by omega)) rfl (fun k hk => by rw [e1 300 (by omega)]) (fun i hi k hk => by unfold mR; rw [e1 301 (by omega)])
  · exact i3.cong (e2 7 (by omega)) e3 (e1 285 (by omega)) (e1 302 (by omega))
  · exact i4.cong (fun p h1 h2 => e1 p (by omega)) (e1 303 (by omega)) (e1 304 (by omega))
  · intro k; rw [e1 9999 (by omega)]; exact i5 k
def sTold (r : Row) (s w : Int) : Int := if 0 ≤ s ∧ s ≤ 11 then (if w = 0 then r (22 + s.toNat) else if w = 1 then r (34 + s.toNat) else if w = 2 then r (6 + (r (22 + s.toNat)).toNat) else if w = 3 then r (14 + (r (22 + s.toNat)).toNat) else if w = 4 then (if r (6 + (r (22 + s.toNat)).toNat) = 0 then 1 else 0) else -1) else -1
theorem R32_sTold {r : Row} (v : Yvd r) (s w : Int) : R32 (sTold r s w) := by
  unfold sTold
  split
  · rename_i hs
    have h1 := v.sh s.toNat (by omega)
    have h2 := v.pu s.toNat (by omega)
    have h3 := v.op (r (22 + s.toNat)).toNat (by omega)
    have h4 := v.wd (r (22 + s.toNat)).toNat (by omega)
    repeat' split
    all_goals first | omega | exact r32m1
  · exact r32m1
theorem K25 (hh : RfH h) {r : Row} (t : Ytk F 1 r) (v : Yvd r) {s a : Int} (hs : 0 ≤ s ∧ s < 12) (ra : R32 a) (H : Q (some (vi (if a = 0 then r (6 + (r (22 + s.toNat)).toNat) else r (14 + (r (22 + s.toNat)).toNat)))) (Wd S L F G h)) : C25_0 s a (Wd S L F G h) Q := by
  have h1 := v.sh s.toNat (by omega)
  have e1 := t.sh1 s.toNat (by omega)
  have e2 := t.op1 (r (22 + s.toNat)).toNat (by omega)
  have e3 := t.wd1 (r (22 + s.toNat)).toNat (by omega)
  refine T25_0 hh ⟨ra, ?_⟩
  rw [e1, e2, e3]
  split
  · rename_i ha
    rw [if_pos ha] at H
    exact ⟨by omega, by omega, H⟩
  · rename_i ha
    rw [if_neg ha] at H
    exact ⟨by omega, by omega, H⟩
theorem K72 (hh : RfH h) {r : Row} (t : Ytk F 1 r) (v : Yvd r) {s w : Int} (rs : R32 s) (rw' : R32 w) (H : ∀ x, x = sTold r s w → Q (some (vi x)) (Wd S L F G h)) : C72_0 s w (Wd S L F G h) Q := by
  refine T72_0 hh ⟨rs, ?_⟩
  split
  · exact H _ (by unfold sTold; rw [if_neg (by omega)])
  split
  · exact H _ (by unfold sTold; rw [if_neg (by omega)])
  have h1 := v.sh s.toNat (by omega)
  have e1 := t.sh1 s.toNat (by omega)
  have e4 := t.pu1 s.toNat (by omega)
  have e2 := t.op1 (r (22 + s.toNat)).toNat (by omega)
  have h2 := v.op (r (22 + s.toNat)).toNat (by omega)
  have hin : 0 ≤ s ∧ s ≤ 11 := by omega
  refine ⟨rw', ?_⟩
  split
  · rename_i c0
    exact ⟨by omega, H _ (by unfold sTold; rw [if_pos hin, if_pos c0, e1])⟩
  rename_i c0
  split
  · rename_i c1
    exact ⟨by omega, H _ (by unfold sTold; rw [if_pos hin, if_neg c0, if_pos c1, e4])⟩
  rename_i c1
  split
  · rename_i c2
    exact K25 hh t v (by omega) (by decide) ⟨_, rfl, rfl, H _ (by unfold sTold; rw [if_pos hin, if_neg c0, if_neg c1, if_pos c2, if_pos rfl])⟩
  rename_i c2
  split
  · rename_i c3
    exact K25 hh t v (by omega) (by decide) ⟨_, rfl, rfl, H _ (by unfold sTold; rw [if_pos hin, if_neg c0, if_neg c1, if_neg c2, if_pos c3, if_neg (by decide)])⟩
  rename_i c3
  split
  · rename_i c4
    rw [e1, e2]
    refine ⟨by omega, by omega, by omega, ?_⟩
    split
    · rename_i c5
      exact H _ (by unfold sTold; rw [if_pos hin, if_neg c0, if_neg c1, if_neg c2, if_neg c3, if_pos c4, if_pos c5])
    · rename_i c5
      exact H _ (by unfold sTold; rw [if_pos hin, if_neg c0, if_neg c1, if_neg c2, if_neg c3, if_pos c4, if_neg c5])
  · rename_i c4
    exact H _ (by unfold sTold; rw [if_pos hin, if_neg c0, if_neg c1, if_neg c2, if_neg c3, if_neg c4])
theorem K125 (hh : RfH h) (v : Yvd (F 298)) {s w : Int} (rs : R32 s) (rw' : R32 w) (H : ∀ x, x = sTold (F 298) s w → Q (some (vi x)) (Wd S L F G h)) : C125_0 s w (Wd S L F G h) Q := by
  refine T125_0 hh ⟨rs, ?_⟩
  split
  · exact H _ (by unfold sTold; rw [if_neg (by omega)])
  split
  · exact H _ (by unfold sTold; rw [if_neg (by omega)])
  have h1 := v.sh s.toNat (by omega)
  have h2 := v.op (F 298 (22 + s.toNat)).toNat (by omega)
  have hin : 0 ≤ s ∧ s ≤ 11 := by omega
  have g1 : (22 + s).toNat = 22 + s.toNat := by omega
  have g2 : (34 + s).toNat = 34 + s.toNat := by omega
  have g3 : (6 + F 298 (22 + s.toNat)).toNat = 6 + (F 298 (22 + s.toNat)).toNat := by omega
  have g4 : (14 + F 298 (22 + s.toNat)).toNat = 14 + (F 298 (22 + s.toNat)).toNat := by omega
  rw [g1, g2, g3, g4]
  refine ⟨by omega, rw', ?_⟩
  split
  · rename_i c0
    exact H _ (by unfold sTold; rw [if_pos hin, if_pos c0])
  rename_i c0
  split
  · rename_i c1
    exact ⟨by omega, H _ (by unfold sTold; rw [if_pos hin, if_neg c0, if_pos c1])⟩
  rename_i c1
  split
  · rename_i c2
    exact ⟨by omega, H _ (by unfold sTold; rw [if_pos hin, if_neg c0, if_neg c1, if_pos c2])⟩
  rename_i c2
  split
  · rename_i c3
    exact ⟨by omega, H _ (by unfold sTold; rw [if_pos hin, if_neg c0, if_neg c1, if_neg c2, if_pos c3])⟩
  rename_i c3
  split
  · rename_i c4
    refine ⟨by omega, by omega, ?_⟩
    split
    · rename_i c5
      exact H _ (by unfold sTold; rw [if_pos hin, if_neg c0, if_neg c1, if_neg c2, if_neg c3, if_pos c4, if_pos c5])
    · rename_i c5
      exact H _ (by unfold sTold; rw [if_pos hin, if_neg c0, if_neg c1, if_neg c2, if_neg c3, if_pos c4, if_neg c5])
  · rename_i c4
    exact H _ (by unfold sTold; rw [if_pos hin, if_neg c0, if_neg c1, if_neg c2, if_neg c3, if_neg c4])
theorem O374 {xs : Nat → Int} (I : Inv F G h xs) {x3 : Int} (hx : 0 ≤ x3 ∧ x3 + 6 ≤ (L : Int)) (hL : L ≤ 3072) (K : ∀ (F' G' : Nat → Nat → Int) (h' : Nat → Nat → Option Nat), Inv F' G' h' xs → C201_18 (x3 + 6) (Wd S L F' G' h') Q) : C201_374 x3 (Wd S L F G h) Q := by
  have hh := I.1
  obtain ⟨t, v⟩ := I.row
  have hR : ∀ k, R32 (F 9999 k) := I.r32
  refine T201_374 hh ⟨by omega, by omega, by omega, by omega, ?_⟩
  refine K72 hh t v (hR _) (hR _) (fun x e => ⟨_, rfl, rfl, ?_⟩)
  refine K125 hh v (hR _) (hR _) (fun y e2 => ⟨_, rfl, rfl, ?_⟩)
  rw [e, e2]
  refine ⟨R32_sTold v _ _, R32_sTold v _ _, ?_⟩
  rw [if_pos rfl]
  exact K F G h I
def sLetter (r : Row) (j k : Int) : Int := if 0 ≤ j ∧ j < r 1 ∧ 0 ≤ k then (if k < r (71 + 8 * j.toNat) then r (72 + 8 * j.toNat + k.toNat) else -4) else -1
theorem R32_sLetter {r : Row} (v : Yvd r) (j k : Int) : R32 (sLetter r j k) := by
  have hw := v.w
  unfold sLetter
  split
  · rename_i hs
    split
    · have h1 := v.sz j.toNat (by omega)
      have h2 := v.lt j.toNat (by omega) k.toNat (by omega)
      omega
    · decide
  · exact r32m1
theorem K83 (hh : RfH h) {r : Row} (t : Ytk F 1 r) (v : Yvd r) {j k : Int} (rj : R32 j) (rk : R32 k) (H : ∀ x, x = sLetter r j k → Q (some (vi x)) (Wd S L F G h)) : C83_0 j k (Wd S L F G h) Q := by
  have hw := v.w
  have ew := t.w1
  refine T83_0 hh ⟨rj, ?_⟩
  rw [ew]
  split
  · exact H _ (by unfold sLetter; rw [if_neg (by omega)])
  refine ⟨by omega, ?_⟩
  split
  · exact H _ (by unfold sLetter; rw [if_neg (by omega)])
  refine ⟨rk, ?_⟩
  split
  · have e1 := t.sz1 j.toNat (by omega)
    have h1 := v.sz j.toNat (by omega)
    rw [e1]
    refine ⟨by omega, by omega, ?_⟩
    split
    · exact H _ (by unfold sLetter; rw [if_pos (by omega), if_neg (by omega)])
    · have e2 := t.lt1 j.toNat (by omega) k.toNat (by omega) (by omega)
      exact ⟨by omega, H _ (by unfold sLetter; rw [if_pos (by omega), if_pos (by omega), e2])⟩
  · exact H _ (by unfold sLetter; rw [if_neg (by omega)])
theorem K153 (hh : RfH h) (v : Yvd (F 298)) {j k : Int} (rj : R32 j) (rk : R32 k) (H : ∀ x, x = sLetter (F 298) j k → Q (some (vi x)) (Wd S L F G h)) : C153_0 j k (Wd S L F G h) Q := by
  have hw := v.w
  refine T153_0 hh ⟨rj, by omega, ?_⟩
  split
  · exact H _ (by unfold sLetter; rw [if_neg (by omega)])
  split
  · exact H _ (by unfold sLetter; rw [if_neg (by omega)])
  refine ⟨rk, ?_⟩
  have g1 : (70 + 8 * j + 1).toNat = 71 + 8 * j.toNat := by omega
  rw [g1]
  split
  · have h1 := v.sz j.toNat (by omega)
    refine ⟨by omega, by omega, ?_⟩
    split
    · exact H _ (by unfold sLetter; rw [if_pos (by omega), if_neg (by omega)])
    · have g2 : (70 + 8 * j + 2 + k).toNat = 72 + 8 * j.toNat + k.toNat := by omega
      rw [g2]
      exact ⟨by omega, H _ (by unfold sLetter; rw [if_pos (by omega), if_pos (by omega)])⟩
  · exact H _ (by unfold sLetter; rw [if_neg (by omega)])
theorem O739 {xs : Nat → Int} (I : Inv F G h xs) {x3 : Int} (hx : 0 ≤ x3 ∧ x3 + 6 ≤ (L : Int)) (hL : L ≤ 3072) (K : ∀ (F' G' : Nat → Nat → Int) (h' : Nat → Nat → Option Nat), Inv F' G' h' xs → C201_18 (x3 + 6) (Wd S L F' G' h') Q) : C201_739 x3 (Wd S L F G h) Q := by
  have hh := I.1
  obtain ⟨t, v⟩ := I.row
  have hR : ∀ k, R32 (F 9999 k) := I.r32
  refine T201_739 hh ⟨by omega, by omega, by omega, by omega, ?_⟩
  refine K83 hh t v (hR _) (hR _) (fun x e => ⟨_, rfl, rfl, ?_⟩)
  refine K153 hh v (hR _) (hR _) (fun y e2 => ⟨_, rfl, rfl, ?_⟩)
  rw [e, e2]
  refine ⟨R32_sLetter v _ _, R32_sLetter v _ _, ?_⟩
  rw [if_pos rfl]
  exact K F G h I
theorem O795 {xs : Nat → Int} (I : Inv F G h xs) {x3 : Int} (hx : 0 ≤ x3 ∧ x3 + 6 ≤ (L : Int)) (hL : L ≤ 3072) (K : ∀ (F' G' : Nat → Nat → Int) (h' : Nat → Nat → Option Nat), Inv F' G' h' xs → C201_18 (x3 + 6) (Wd S L F' G' h') Q) : C201_795 x3 (Wd S L F G h) Q := by
  have hh := I.1
  obtain ⟨t, v⟩ := I.row
  have hR : ∀ k, R32 (F 9999 k) := I.r32
  refine T201_795 hh ⟨by omega, by omega, ?_⟩
  obtain ⟨p1, p2, p3, p4⟩ := I.2.2.2.1
  have ra := hR (x3 + 1).toNat
  generalize ha : F 9999 (x3 + 1).toNat = a at ra ⊢
  refine T85_0 hh ⟨ra, ?_⟩
  split
  · refine ⟨_, _, rfl, rfl, ?_⟩
    rw [ha]
    refine T171_0 hh ⟨ra, ?_⟩
    rw [if_pos (by assumption)]
    refine ⟨_, _, rfl, rfl, r32m1, r32m1, ?_⟩
    rw [if_pos rfl]
    exact K F G h I
  split
  · refine ⟨_, _, rfl, rfl, ?_⟩
    rw [ha]
    refine T171_0 hh ⟨ra, ?_⟩
    rw [if_neg (by assumption), if_pos (by assumption)]
    refine ⟨_, _, rfl, rfl, r32m1, r32m1, ?_⟩
    rw [if_pos rfl]
    exact K F G h I
  rename_i c1 c2
  refine T48_0 hh ?_
  rw [p3]
  refine ⟨by omega, ?_⟩
  split
  · rename_i c3
    refine ⟨by omega, _, _, rfl, rfl, _, _, rfl, rfl, ?_⟩
    have g9 : am_up (am_up F 285 (F 297 7).toNat a) 284 1 (F 297 7 + 1) 9999 (x3 + 1).toNat = a := by
      rw [up_out (by decide), up_out (by decide)]; exact ha
    have g7 : am_up (am_up F 285 (F 297 7).toNat a) 284 1 (F 297 7 + 1) 297 7 = F 297 7 := by
      rw [up_out (by decide), up_out (by decide)]
    rw [g9]
    refine T171_0 hh ⟨ra, ?_⟩
    rw [if_neg c1, if_neg c2, g7]
    refine ⟨by omega, ?_⟩
    rw [if_neg (by omega)]
    refine ⟨by omega, _, _, rfl, rfl, by omega, by omega, ?_⟩
    rw [if_pos rfl]
    refine K _ _ _ ?_
    have o : ∀ p, p ≠ 297 → p ≠ 302 → p ≠ 284 → p ≠ 285 → am_up (am_up (am_up (am_up F 285 (F 297 7).toNat a) 284 1 (F 297 7 + 1)) 302 (F 297 7).toNat a) 297 7 (F 297 7 + 1) p = F p := fun p q1 q2 q3 q4 => by
      rw [up_out q1, up_out q2, up_out q3, up_out q4]
    have o7 : ∀ k, k ≠ 7 → am_up (am_up (am_up (am_up F 285 (F 297 7).toNat a) 284 1 (F 297 7 + 1)) 302 (F 297 7).toNat a) 297 7 (F 297 7 + 1) 297 k = F 297 k := fun k hk => by
      rw [up_at, if_neg hk, up_out (by decide), up_out (by decide), up_out (by decide)]
    obtain ⟨i0, ⟨n, i1, i1c⟩, i2, i3, i4, i5, i6⟩ := I
    refine ⟨i0, ⟨n, by rw [o7 2 (by decide)]; exact i1, i1c.cong (fun p h1 h2 => o p (by omega) (by omega) (by omega) (by omega)) (fun k hk => by rw [o 298 (by decide) (by decide) (by decide) (by decide)]) (fun i hi k hk => by unfold mR; rw [o 299 (by decide) (by decide) (by decide) (by decide)])⟩, ?_, ⟨?_, ?_, ?_, fun k hk => ?_⟩, ?_, ?_, i6⟩
    · rw [o7 5 (by decide)]
      exact i2.cong (by rw [o 0 (by decide) (by decide) (by decide) (by decide)]) (fun p h1 h2 => o p (by omega) (by omega) (by omega) (by omega)) rfl (fun k hk => by rw [o 300 (by decide) (by decide) (by decide) (by decide)]) (fun i hi k hk => by unfold mR; rw [o 301 (by decide) (by decide) (by decide) (by decide)])
    · rw [up_at, if_pos rfl]; omega
    · rw [up_at, if_pos rfl]; omega
    · rw [up_out (by decide), up_out (by decide), up_at, if_pos rfl, up_at, if_pos rfl]
    · rw [up_at, if_pos rfl] at hk
      have e285 : am_up (am_up (am_up (am_up F 285 (F 297 7).toNat a) 284 1 (F 297 7 + 1)) 302 (F 297 7).toNat a) 297 7 (F 297 7 + 1) 285 k = if k = (F 297 7).toNat then a else F 285 k := by
        rw [up_out (by decide), up_out (by decide), up_out (by decide), up_at]
      have e302 : am_up (am_up (am_up (am_up F 285 (F 297 7).toNat a) 284 1 (F 297 7 + 1)) 302 (F 297 7).toNat a) 297 7 (F 297 7 + 1) 302 k = if k = (F 297 7).toNat then a else F 302 k := by
        rw [up_out (by decide), up_at, up_out (by decide), up_out (by decide)]
      rw [e285, e302]
      by_cases q : k = (F 297 7).toNat
      · rw [if_pos q, if_pos q]; omega
      · rw [if_neg q, if_neg q]
        exact p4 k (by omega)
    · exact i4.cong (fun p h1 h2 => o p (by omega) (by omega) (by omega) (by omega)) (o 303 (by decide) (by decide) (by decide) (by decide)) (o 304 (by decide) (by decide) (by decide) (by decide))
    · intro k
      rw [o 9999 (by decide) (by decide) (by decide) (by decide)]; exact i5 k
  · rename_i c3
    refine ⟨_, _, rfl, rfl, _, _, rfl, rfl, ?_⟩
    rw [ha]
    refine T171_0 hh ⟨ra, ?_⟩
    rw [if_neg c1, if_neg c2]
    refine ⟨by omega, ?_⟩
    rw [if_pos (by omega)]
    refine ⟨_, _, rfl, rfl, r32m3, r32m3, ?_⟩
    rw [if_pos rfl]
    exact K F G h I
theorem O867 {xs : Nat → Int} (I : Inv F G h xs) {x3 : Int} (hx : 0 ≤ x3 ∧ x3 + 6 ≤ (L : Int)) (hL : L ≤ 3072) (K : ∀ (F' G' : Nat → Nat → Int) (h' : Nat → Nat → Option Nat), Inv F' G' h' xs → C201_18 (x3 + 6) (Wd S L F' G' h') Q) : C201_867 x3 (Wd S L F G h) Q := by
  have hh := I.1
  obtain ⟨t, v⟩ := I.row
  have hR : ∀ k, R32 (F 9999 k) := I.r32
  refine T201_867 hh ⟨by omega, by omega, ?_⟩
  have ra := hR (x3 + 1).toNat
  have hdr := v.dr
  generalize ha : F 9999 (x3 + 1).toNat = a at ra ⊢
  refine T89_0 hh ⟨ra, ?_⟩
  split
  · rename_i c
    refine ⟨_, _, rfl, rfl, ?_⟩
    have g9 : am_up F 1 14 a 9999 (x3 + 1).toNat = a := by rw [up_out (by decide)]; exact ha
    have g5 : am_up F 1 14 a 298 5 = F 298 5 := by rw [up_out (by decide)]
    rw [g9]
    refine T188_0 hh ⟨ra, ?_⟩
    rw [if_pos c, g5, t.dr1]
    refine ⟨_, _, rfl, rfl, by omega, by omega, ?_⟩
    rw [if_pos rfl]
    refine K _ _ _ ?_
    have o : ∀ p, p ≠ 1 → p ≠ 298 → am_up (am_up F 1 14 a) 298 5 a p = F p := fun p q1 q2 => by rw [up_out q2, up_out q1]
    have e298 : am_up (am_up F 1 14 a) 298 5 a 298 = yu1 (F 298) 5 a := by
      funext k
      rw [up_at, up_out (by decide)]; rfl
    obtain ⟨i0, ⟨n, i1, c1, c2, ⟨q, c3, c4⟩, c5⟩, i2, i3, i4, i5, i6⟩ := I
    refine ⟨i0, ⟨n, by rw [o 297 (by decide) (by decide)]; exact i1, ?_, ?_, ⟨q, c3, ?_⟩, fun i hi => ?_⟩, ?_, ?_, ?_, ?_, i6⟩
    · rw [e298]
      refine Ytk.mk1 ⟨by have := c1.n1; simp only [am_up, yu1, if_true]; (repeat' split) <;> omega, by have := c1.lo1; simp only [am_up, yu1, if_true]; (repeat' split) <;> omega, by have := c1.by1; simp only [am_up, yu1, if_true]; (repeat' split) <;> omega, by have := c1.wi1; simp only [am_up, yu1, if_true]; (repeat' split) <;> omega, by have := c1.w1; simp only [am_up, yu1, if_true]; (repeat' split) <;> omega, by have := c1.dr1; simp only [am_up, yu1, if_true]; (repeat' split) <;> omega, fun k' hk' => by have := c1.op1 k' hk'; simp only [am_up, yu1, if_true]; (repeat' split) <;> omega, fun k' hk' => by have := c1.wd1 k' hk'; simp only [am_up, yu1, if_true]; (repeat' split) <;> omega, fun k' hk' => by have := c1.sh1 k' hk'; simp only [am_up, yu1, if_true]; (repeat' split) <;> omega, fun k' hk' => by have := c1.pu1 k' hk'; simp only [am_up, yu1, if_true]; (repeat' split) <;> omega, fun k' hk' => by have := c1.sg1 k' hk'; simp only [am_up, yu1, if_true]; (repeat' split) <;> omega, fun k' hk' => by have := c1.tm1 k' hk'; simp only [am_up, yu1, if_true]; (repeat' split) <;> omega, fun k' hk' => by have := c1.wt1 k' hk'; simp only [am_up, yu1, if_true]; (repeat' split) <;> omega, fun k' hk' => by have := c1.sz1 k' hk'; simp only [am_up, yu1, if_true]; (repeat' split) <;> omega, fun j hj k hk hl => ?_⟩
      have hl2 : (k : Int) < F 298 (71 + 8 * j) := by
        simp only [yu1] at hl; rw [if_neg (by omega)] at hl; exact hl
      have := c1.lt1 j hj k hk hl2
      simp only [am_up, yu1]
      rw [if_neg (by omega), if_neg (by omega), if_neg (by omega)]
      exact this
    · rw [e298]; exact Yvd_draw c2 (by omega)
    · have := c4.cong (F' := am_up (am_up F 1 14 a) 298 5 a) c3 (fun p h1 h2 => o p (by omega) (by omega))
      unfold mR
      rw [o 299 (by decide) (by decide)]
      exact this
    · unfold mR
      rw [o 299 (by decide) (by decide)]
      exact c5 i hi
    · rw [o 297 (by decide) (by decide)]
      exact i2.cong (by rw [o 0 (by decide) (by decide)]) (fun p h1 h2 => o p (by omega) (by omega)) rfl (fun k hk => by rw [o 300 (by decide) (by decide)]) (fun i hi k hk => by unfold mR; rw [o 301 (by decide) (by decide)])
    · exact i3.cong (by rw [o 297 (by decide) (by decide)]) (by rw [o 284 (by decide) (by decide)]) (o 285 (by decide) (by decide)) (o 302 (by decide) (by decide))
    · exact i4.cong (fun p h1 h2 => o p (by omega) (by omega)) (o 303 (by decide) (by decide)) (o 304 (by decide) (by decide))
    · intro k
      rw [o 9999 (by decide) (by decide)]; exact i5 k
  · rename_i c
    refine ⟨_, _, rfl, rfl, ?_⟩
    rw [ha]
    refine T188_0 hh ⟨ra, ?_⟩
    rw [if_neg c]
    refine ⟨_, _, rfl, rfl, r32m1, r32m1, ?_⟩
    rw [if_pos rfl]
    exact K F G h I
theorem O854 {xs : Nat → Int} (I : Inv F G h xs) {x3 : Int} (hx : 0 ≤ x3 ∧ x3 + 6 ≤ (L : Int)) (hL : L ≤ 3072) (K : ∀ (F' G' : Nat → Nat → Int) (h' : Nat → Nat → Option Nat), Inv F' G' h' xs → C201_18 (x3 + 6) (Wd S L F' G' h') Q) : C201_854 x3 (Wd S L F G h) Q := by
  have hh := I.1
  obtain ⟨t, v⟩ := I.row
  have hR : ∀ k, R32 (F 9999 k) := I.r32
  refine T201_854 hh ?_
  obtain ⟨i0, ⟨n, i1, c1, c2, ⟨q, c3, c4⟩, c5⟩, i2, i3, i4, i5, i6⟩ := id I
  have e37 := c4.1
  have hn := c4.2.1
  refine T88_0 hh ⟨by omega, ?_⟩
  cases n with
  | zero =>
    rw [if_pos (by omega)]
    refine ⟨_, _, rfl, rfl, ?_⟩
    refine T187_0 hh ⟨by omega, ?_⟩
    rw [if_pos (by omega)]
    refine ⟨_, _, rfl, rfl, by decide, by decide, ?_⟩
    rw [if_pos rfl]
    exact K F G h I
  | succ n =>
    rw [if_neg (by omega)]
    refine K16 hh c3 c4 (fun F1 k1 k2 k3 => ⟨_, rfl, rfl, ?_⟩)
    rw [k2.1]
    refine ⟨_, _, rfl, rfl, ?_⟩
    have e7 : F1 297 = F 297 := k3 297 (by decide) (by decide)
    refine K187 (n := n) hh hn (by rw [e7]; exact i1) (fun F2 m1 m2 m3 m4 => ⟨_, _, rfl, rfl, by omega, by omega, ?_⟩)
    rw [if_pos rfl]
    refine K F2 G h ?_
    have o : ∀ p, ¬ (1 ≤ p ∧ p < 19) → p ≠ 37 → p ≠ 297 → p ≠ 298 → F2 p = F p := fun p q1 q2 q3 q4 => by rw [m4 p q3 q4, k3 p q1 q2]
    have o7 : ∀ k, k ≠ 2 → F2 297 k = F 297 k := fun k hk => by rw [m3 k hk, e7]
    have eR : mR F1 299 = mR F 299 := by unfold mR; rw [k3 299 (by decide) (by decide)]
    rw [eR] at m1
    refine ⟨i0, ⟨n, m2, (k1.cong (fun x h1 h2 => m4 x (by omega) (by omega))).row m1, (c5 n (by omega)).cong m1, ⟨q, c3, ?_⟩, fun i hi => ?_⟩, ?_, ?_, ?_, ?_, i6⟩
    · have := k2.cong (F' := F2) c3 (fun p h1 h2 => m4 p (by omega) (by omega))
      unfold mR
      rw [o 299 (by decide) (by decide) (by decide) (by decide)]
      exact this
    · unfold mR
      rw [o 299 (by decide) (by decide) (by decide) (by decide)]
      exact c5 i (by omega)
    · rw [o7 5 (by decide)]
      exact i2.cong (by rw [o 0 (by decide) (by decide) (by decide) (by decide)]) (fun p h1 h2 => o p (by omega) (by omega) (by omega) (by omega)) rfl (fun k hk => by rw [o 300 (by decide) (by decide) (by decide) (by decide)]) (fun i hi k hk => by unfold mR; rw [o 301 (by decide) (by decide) (by decide) (by decide)])
    · exact i3.cong (o7 7 (by decide)) (by rw [o 284 (by decide) (by decide) (by decide) (by decide)]) (o 285 (by decide) (by decide) (by decide) (by decide)) (o 302 (by decide) (by decide) (by decide) (by decide))
    · exact i4.cong (fun p h1 h2 => o p (by omega) (by omega) (by omega) (by omega)) (o 303 (by decide) (by decide) (by decide) (by decide)) (o 304 (by decide) (by decide) (by decide) (by decide))
    · intro k
      rw [o 9999 (by decide) (by decide) (by decide) (by decide)]; exact i5 k
theorem Yim.q {m : Int} {ri : Row} {Ri : Nat → Row} (c : Yim F h m ri Ri) : ∃ q, Ysth h 165 q := by
  rcases c with ⟨c1, c2, q, c3⟩ | ⟨c1, c2, c3, ni, q, c4, c5, c6⟩
  · exact ⟨q, c3⟩
  · exact ⟨q, c5⟩
theorem O890 {xs : Nat → Int} (I : Inv F G h xs) {x3 : Int} (hx : 0 ≤ x3 ∧ x3 + 6 ≤ (L : Int)) (hL : L ≤ 3072) (K : ∀ (F' G' : Nat → Nat → Int) (h' : Nat → Nat → Option Nat), Inv F' G' h' xs → C201_18 (x3 + 6) (Wd S L F' G' h') Q) : C201_890 x3 (Wd S L F G h) Q := by
  have hh := I.1
  obtain ⟨t, v⟩ := I.row
  have hR : ∀ k, R32 (F 9999 k) := I.r32
  refine T201_890 hh ?_
  obtain ⟨i0, ⟨n, i1, c1, c2, ⟨q, c3, c4⟩, c5⟩, i2, i3, i4, i5, i6⟩ := id I
  obtain ⟨q5, hq5⟩ := i2.q
  have hn := c4.2.1
  refine T90_0 hh ?_
  refine K24 hh rfl rfl (by decide) (fun F1 k1 k2 => ⟨_, rfl, rfl, ?_⟩)
  refine K17b hh hq5 c3 (c4.cong c3 (fun p h1 h2 => k2 p (by omega))) (fun F2 a1 a2 => ⟨_, rfl, rfl, _, _, rfl, rfl, ?_⟩)
  have o1 : ∀ p, ¬ (147 ≤ p ∧ p < 275) → p ≠ 0 → am_up F2 0 5 1 p = F p := fun p q1 q2 => by rw [up_out q2, a2 p (by omega), k2 p (by omega)]
  refine K189 hh (fun F3 m1 m2 m3 m4 m5 => ⟨_, _, rfl, rfl, by decide, by decide, ?_⟩)
  rw [if_pos rfl]
  refine K F3 G h ?_
  have o : ∀ p, ¬ (147 ≤ p ∧ p < 275) → p ≠ 0 → p ≠ 297 → p ≠ 300 → p ≠ 301 → F3 p = F p := fun p q1 q2 q3 q4 q5 => by rw [m5 p q3 q4 q5, o1 p q1 q2]
  have o7 : ∀ k, k ≠ 5 → F3 297 k = F 297 k := fun k hk => by rw [m4 k hk, o1 297 (by decide) (by decide)]
  have e300 : ∀ k, k < 134 → F3 300 k = F 298 k := fun k hk => by rw [m1 k hk, o1 298 (by decide) (by decide)]
  have e301 : ∀ i, i < n → ∀ k, k < 134 → mR F3 301 i k = mR F 299 i k := fun i hi k hk => by
    unfold mR
    rw [m2 _ (by omega), o1 299 (by decide) (by decide)]
  have e5 : F3 297 5 = (n : Int) := by rw [m3, o1 297 (by decide) (by decide)]; exact i1
  refine ⟨i0, ⟨n, by rw [o7 2 (by decide)]; exact i1, Yc.cong ⟨c1, c2, ⟨q, c3, c4⟩, c5⟩ (fun p h1 h2 => o p (by omega) (by omega) (by omega) (by omega) (by omega)) (fun k hk => by rw [o 298 (by decide) (by decide) (by decide) (by decide) (by decide)]) (fun i hi k hk => by unfold mR; rw [o 299 (by decide) (by decide) (by decide) (by decide) (by decide)])⟩, Or.inr ⟨?_, ?_, c2.cong e300, n, q5, e5, hq5, ?_, fun i hi => (c5 i hi).cong (e301 i hi)⟩, ?_, ?_, ?_, i6⟩
  · rw [m5 0 (by decide) (by decide) (by decide), up_at, if_pos rfl]
  · refine Ytk.row ?_ e300
    exact (k1 _ c1).cong (fun x h1 h2 => by rw [m5 x (by omega) (by omega) (by omega), up_out (by omega), a2 x (by omega)])
  · refine Ypast.row ?_ e301
    exact a1.cong hq5 (fun p h1 h2 => by rw [m5 p (by omega) (by omega) (by omega), up_out (by omega)])
  · exact i3.cong (o7 7 (by decide)) (by rw [o 284 (by decide) (by decide) (by decide) (by decide) (by decide)]) (o 285 (by decide) (by decide) (by decide) (by decide) (by decide)) (o 302 (by decide) (by decide) (by decide) (by decide) (by decide))
  · exact i4.cong (fun p h1 h2 => o p (by omega) (by omega) (by omega) (by omega) (by omega)) (o 303 (by decide) (by decide) (by decide) (by decide) (by decide)) (o 304 (by decide) (by decide) (by decide) (by decide) (by decide))
  · intro k
    rw [o 9999 (by decide) (by decide) (by decide) (by decide) (by decide)]; exact i5 k
theorem O903 {xs : Nat → Int} (I : Inv F G h xs) {x3 : Int} (hx : 0 ≤ x3 ∧ x3 + 6 ≤ (L : Int)) (hL : L ≤ 3072) (K : ∀ (F' G' : Nat → Nat → Int) (h' : Nat → Nat → Option Nat), Inv F' G' h' xs → C201_18 (x3 + 6) (Wd S L F' G' h') Q) : C201_903 x3 (Wd S L F G h) Q := by
  have hh := I.1
  obtain ⟨t, v⟩ := I.row
  have hR : ∀ k, R32 (F 9999 k) := I.r32
  refine T201_903 hh ?_
  obtain ⟨i0, ⟨n, i1, c1, c2, ⟨q, c3, c4⟩, c5⟩, i2, i3, i4, i5, i6⟩ := id I
  rcases i2 with ⟨d1, d2, q5, hq5⟩ | ⟨d1, d2, d3, ni, q5, d4, d5, d6, d7⟩
  · refine T91_0 hh ⟨by omega, ?_⟩
    rw [if_pos d1]
    refine ⟨_, _, rfl, rfl, ?_⟩
    refine K190n hh d2 ⟨_, _, rfl, rfl, by decide, by decide, ?_⟩
    rw [if_pos rfl]
    exact K F G h I
  · have hni := d6.2.1
    refine T91_0 hh ⟨by omega, ?_⟩
    rw [if_neg (by omega)]
    refine K24 hh rfl rfl (by decide) (fun F1 k1 k2 => ⟨_, rfl, rfl, ?_⟩)
    refine K17 hh c3 d5 (d6.cong d5 (fun p h1 h2 => k2 p (by omega))) (fun F2 a1 a2 => ⟨_, rfl, rfl, _, _, rfl, rfl, ?_⟩)
    have o1 : ∀ p, ¬ (1 ≤ p ∧ p < 19) → ¬ (37 ≤ p ∧ p < 147) → F2 p = F p := fun p q1 q2 => by rw [a2 p (by omega), k2 p (by omega)]
    refine K190 hh (by rw [o1 297 (by decide) (by decide)]; omega) (fun F3 m1 m2 m3 m4 m5 => ⟨_, _, rfl, rfl, by decide, by decide, ?_⟩)
    rw [if_pos rfl]
    refine K F3 G h ?_
    have o : ∀ p, ¬ (1 ≤ p ∧ p < 19) → ¬ (37 ≤ p ∧ p < 147) → p ≠ 297 → p ≠ 298 → p ≠ 299 → F3 p = F p := fun p q1 q2 q3 q4 q5 => by rw [m5 p q3 q4 q5, o1 p q1 q2]
    have o7 : ∀ k, k ≠ 2 → F3 297 k = F 297 k := fun k hk => by rw [m4 k hk, o1 297 (by decide) (by decide)]
    have e298 : ∀ k, k < 134 → F3 298 k = F 300 k := fun k hk => by rw [m1 k hk, o1 300 (by decide) (by decide)]
    have e299 : ∀ i, i < ni → ∀ k, k < 134 → mR F3 299 i k = mR F 301 i k := fun i hi k hk => by
      unfold mR
      rw [m2 _ (by omega), o1 301 (by decide) (by decide)]
    have e2 : F3 297 2 = (ni : Int) := by rw [m3, o1 297 (by decide) (by decide)]; exact d4
    refine ⟨i0, ⟨ni, e2, ?_, d3.cong e298, ⟨q, c3, ?_⟩, fun i hi => (d7 i hi).cong (e299 i hi)⟩, ?_, ?_, ?_, ?_, i6⟩
    · refine Ytk.row ?_ e298
      exact (k1 _ d2).cong (fun x h1 h2 => by rw [m5 x (by omega) (by omega) (by omega), a2 x (by omega)])
    · refine Ypast.row ?_ e299
      exact a1.cong c3 (fun p h1 h2 => m5 p (by omega) (by omega) (by omega))
    · rw [o7 5 (by decide)]
      have : Yim F h (F 297 5) (F 300) (mR F 301) := Or.inr ⟨d1, d2, d3, ni, q5, d4, d5, d6, d7⟩
      exact this.cong (by rw [o 0 (by decide) (by decide) (by decide) (by decide) (by decide)]) (fun p h1 h2 => o p (by omega) (by omega) (by omega) (by omega) (by omega)) rfl (fun k hk => by rw [o 300 (by decide) (by decide) (by decide) (by decide) (by decide)]) (fun i hi k hk => by unfold mR; rw [o 301 (by decide) (by decide) (by decide) (by decide) (by decide)])
    · exact i3.cong (o7 7 (by decide)) (by rw [o 284 (by decide) (by decide) (by decide) (by decide) (by decide)]) (o 285 (by decide) (by decide) (by decide) (by decide) (by decide)) (o 302 (by decide) (by decide) (by decide) (by decide) (by decide))
    · exact i4.cong (fun p h1 h2 => o p (by omega) (by omega) (by omega) (by omega) (by omega)) (o 303 (by decide) (by decide) (by decide) (by decide) (by decide)) (o 304 (by decide) (by decide) (by decide) (by decide) (by decide))
    · intro k
      rw [o 9999 (by decide) (by decide) (by decide) (by decide) (by decide)]; exact i5 k
end OPS
