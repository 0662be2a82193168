/-! sounds, at, count, film -/
section SEEN
variable {S L : Nat} {F G : Nat → Nat → Int} {h : Nat → Nat → Option Nat} {Q : Option V2 → W2 → Prop}
def sSounds (r : Row) (i w : Int) : Int := if 0 ≤ i ∧ i < r 0 then (if w = 0 then r (46 + i.toNat) else if w = 1 then r (58 + i.toNat) else if w = 2 then ysm (fun k => r (58 + k)) i.toNat else if w = 3 then ysm (yfr' r) i.toNat else if w = 4 then yfr' r i.toNat else if w = 5 then yln r i.toNat else if w = 6 then ylo r i.toNat else -1) else -1
theorem yfr_part {r : Row} (v : Yvd r) {i : Nat} (hi : i ≤ yn r) : 0 ≤ ysm (yfr' r) i ∧ ysm (yfr' r) i ≤ 100 := by
  have h1 := yfr_mono v (a := i) (b := yn r) hi (Nat.le_refl _)
  have h2 := yfr_mono v (a := 0) (b := i) (by omega) hi
  have h3 := yfr_sum v
  have h4 := yM_n v
  have h0 : ysm (yfr' r) 0 = 0 := rfl
  omega
theorem R32_sSounds {r : Row} (v : Yvd r) (i w : Int) : R32 (sSounds r i w) := by
  have hn := v.n
  unfold sSounds
  split
  · have h1 := v.sg i.toNat (by omega)
    have h2 := v.tm i.toNat (by omega)
    have h3 := ysm_bd12 v (n := i.toNat) (by omega)
    have h4 := yfr_part v (i := i.toNat) (by unfold yn; omega)
    have h5 := yfr_bd' v (i := i.toNat) (by unfold yn; omega)
    have h6 := yln_bd r i.toNat
    have h7 := ylo_bd r i.toNat
    repeat' split
    all_goals omega
  · exact r32m1
theorem K73 (hh : RfH h) {r : Row} (t : Ytk F 1 r) (v : Yvd r) {i w : Int} (ri : R32 i) (rw' : R32 w) (H : ∀ (x : Int) (F' : Nat → Nat → Int), x = sSounds r i w → (∀ p, p < 275 ∨ 281 ≤ p → F' p = F p) → Q (some (vi x)) (Wd S L F' G h)) : C73_0 i w (Wd S L F G h) Q := by
  have hn := v.n
  have e6 := t.n1
  refine T73_0 hh ⟨ri, ?_⟩
  rw [e6]
  split
  · exact H _ F (by unfold sSounds; rw [if_neg (by omega)]) (fun p hp => rfl)
  refine ⟨by omega, ?_⟩
  split
  · exact H _ F (by unfold sSounds; rw [if_neg (by omega)]) (fun p hp => rfl)
  have hin : 0 ≤ i ∧ i < r 0 := by omega
  have hiy : i.toNat < yn r := by unfold yn; omega
  refine K1 hh t v (fun F1 c f1 => ⟨_, rfl, rfl, rw', ?_⟩)
  have t1 : Ytk F1 1 r := t.cong (fun x h1 h2 => f1 x (by omega))
  obtain ⟨d1, d2⟩ := c
  obtain ⟨e1, e2, e3⟩ := d1 i.toNat hiy
  split
  · rename_i c0
    exact ⟨by omega, H _ F1 (by unfold sSounds; rw [if_pos hin, if_pos c0]; exact t1.sg1 _ (by omega)) f1⟩
  rename_i c0
  split
  · rename_i c1
    exact ⟨by omega, H _ F1 (by unfold sSounds; rw [if_pos hin, if_neg c0, if_pos c1]; exact t1.tm1 _ (by omega)) f1⟩
  rename_i c1
  split
  · rename_i c2
    exact K27 hh t1 (by omega) ⟨_, rfl, rfl, H _ F1 (by unfold sSounds; rw [if_pos hin, if_neg c0, if_neg c1, if_pos c2]) f1⟩
  rename_i c2
  split
  · rename_i c3
    have := K7 (F := F1) (G := G) (S := S) (L := L) hh (f := yfr' r) (n := i.toNat) (Q := fun v w1 => ∃ (v14 : Int), v = some (vi v14) ∧ w1 = (Wd S L F1 G h) ∧ Q (some (vi v14)) (Wd S L F1 G h)) (by omega) (fun j hj => (d1 j (by omega)).1) ⟨_, rfl, rfl, H _ F1 (by unfold sSounds; rw [if_pos hin, if_neg c0, if_neg c1, if_neg c2, if_pos c3]) f1⟩
    rw [show ((i.toNat : Nat) : Int) = i by omega] at this
    exact this
  rename_i c3
  split
  · rename_i c4
    exact ⟨by omega, H _ F1 (by unfold sSounds; rw [if_pos hin, if_neg c0, if_neg c1, if_neg c2, if_neg c3, if_pos c4]; exact e1) f1⟩
  rename_i c4
  split
  · rename_i c5
    exact ⟨by omega, H _ F1 (by unfold sSounds; rw [if_pos hin, if_neg c0, if_neg c1, if_neg c2, if_neg c3, if_neg c4, if_pos c5]; exact e2) f1⟩
  rename_i c5
  split
  · rename_i c6
    exact ⟨by omega, H _ F1 (by unfold sSounds; rw [if_pos hin, if_neg c0, if_neg c1, if_neg c2, if_neg c3, if_neg c4, if_neg c5, if_pos c6]; exact e3) f1⟩
  · rename_i c6
    exact H _ F1 (by unfold sSounds; rw [if_pos hin, if_neg c0, if_neg c1, if_neg c2, if_neg c3, if_neg c4, if_neg c5, if_neg c6]) f1
theorem K126 (hh : RfH h) {r : Row} (er : F 298 = r) (v : Yvd r) {i w : Int} (ri : R32 i) (rw' : R32 w) (H : ∀ (x : Int) (F' : Nat → Nat → Int), x = sSounds r i w → (∀ p, p ≠ 307 → p ≠ 308 → p ≠ 309 → F' p = F p) → Q (some (vi x)) (Wd S L F' G h)) : C126_0 i w (Wd S L F G h) Q := by
  have hn := v.n
  refine T126_0 hh ?_
  rw [er]
  refine ⟨ri, by omega, ?_⟩
  split
  · exact H _ F (by unfold sSounds; rw [if_neg (by omega)]) (fun p _ _ _ => rfl)
  split
  · exact H _ F (by unfold sSounds; rw [if_neg (by omega)]) (fun p _ _ _ => rfl)
  have hin : 0 ≤ i ∧ i < r 0 := by omega
  have hiy : i.toNat < yn r := by unfold yn; omega
  refine K121 hh er v (fun F1 ly f1 => ⟨_, rfl, rfl, rw', ?_⟩)
  have e8 : F1 298 = r := by rw [f1 298 (by decide) (by decide) (by decide)]; exact er
  obtain ⟨e1, e2, e3⟩ := ly i.toNat hiy
  have g1 : (46 + i).toNat = 46 + i.toNat := by omega
  have g2 : (58 + i).toNat = 58 + i.toNat := by omega
  rw [e8, g1, g2, e1, e2, e3]
  split
  · rename_i c0
    exact ⟨by omega, H _ F1 (by unfold sSounds; rw [if_pos hin, if_pos c0]) f1⟩
  rename_i c0
  split
  · rename_i c1
    exact ⟨by omega, H _ F1 (by unfold sSounds; rw [if_pos hin, if_neg c0, if_pos c1]) f1⟩
  rename_i c1
  split
  · rename_i c2
    refine K118 hh (by omega) ⟨_, rfl, rfl, H _ F1 ?_ f1⟩
    rw [e8]
    unfold sSounds; rw [if_pos hin, if_neg c0, if_neg c1, if_pos c2]
  rename_i c2
  split
  · rename_i c3
    have := K123 (F := F1) (G := G) (S := S) (L := L) hh (f := yfr' r) (n := i.toNat) (Q := fun v w1 => ∃ (v14 : Int), v = some (vi v14) ∧ w1 = (Wd S L F1 G h) ∧ Q (some (vi v14)) (Wd S L F1 G h)) (by omega) (fun j hj => (ly j (by omega)).1) ⟨_, rfl, rfl, H _ F1 (by unfold sSounds; rw [if_pos hin, if_neg c0, if_neg c1, if_neg c2, if_pos c3]) f1⟩
    rw [show ((i.toNat : Nat) : Int) = i by omega] at this
    exact this
  rename_i c3
  split
  · rename_i c4
    exact ⟨by omega, H _ F1 (by unfold sSounds; rw [if_pos hin, if_neg c0, if_neg c1, if_neg c2, if_neg c3, if_pos c4]) f1⟩
  rename_i c4
  split
  · rename_i c5
    exact ⟨by omega, H _ F1 (by unfold sSounds; rw [if_pos hin, if_neg c0, if_neg c1, if_neg c2, if_neg c3, if_neg c4, if_pos c5]) f1⟩
  rename_i c5
  split
  · rename_i c6
    have hlo := ylo_bd r i.toNat
    have es : sSounds r i w = ylo r i.toNat := by unfold sSounds; rw [if_pos hin, if_neg c0, if_neg c1, if_neg c2, if_neg c3, if_neg c4, if_neg c5, if_pos c6]
    refine ⟨by omega, by omega, ?_⟩
    split
    · rename_i c7
      exact H _ F1 (by rw [es, c7]) f1
    · rename_i c7
      exact H _ F1 (by rw [es]; omega) f1
  · rename_i c6
    exact H _ F1 (by unfold sSounds; rw [if_pos hin, if_neg c0, if_neg c1, if_neg c2, if_neg c3, if_neg c4, if_neg c5, if_neg c6]) f1
theorem O407 {xs : Nat → Int} (I : Inv F G h xs) {x3 : Int} (hx : 0 ≤ x3 ∧ x3 + 6 ≤ (L : Int)) (hL : L ≤ 3072) (K : ∀ (F' G' : Nat → Nat → Int) (h' : Nat → Nat → Option Nat), Inv F' G' h' xs → C201_18 (x3 + 6) (Wd S L F' G' h') Q) : C201_407 x3 (Wd S L F G h) Q := by
  have hh := I.1
  obtain ⟨t, v⟩ := I.row
  have hR : ∀ k, R32 (F 9999 k) := I.r32
  refine T201_407 hh ⟨by omega, by omega, by omega, by omega, ?_⟩
  refine K73 hh t v (hR _) (hR _) (fun x F1 e f1 => ⟨_, _, rfl, rfl, ?_⟩)
  rw [f1 9999 (by omega)]
  refine K126 hh (r := F 298) (f1 298 (by omega)) v (hR _) (hR _) (fun y F2 e2 f2 => ⟨_, _, rfl, rfl, ?_⟩)
  rw [e, e2]
  refine ⟨R32_sSounds v _ _, R32_sSounds v _ _, ?_⟩
  rw [if_pos rfl]
  exact K F2 G h (I.same (fun p hp => by rw [f2 p (by omega) (by omega) (by omega), f1 p (by omega)]) (fun k hk => by rw [f2 297 (by decide) (by decide) (by decide), f1 297 (by omega)]) (by rw [f2 284 (by decide) (by decide) (by decide), f1 284 (by omega)]))
def sAt (r : Row) (f w : Int) : Int := if 0 ≤ f ∧ f < yM r (yn r) ∧ 0 ≤ w ∧ w ≤ 1 then (if w = 0 then (ysA r f.toNat : Int) else ysh r f.toNat) else -1
theorem R32_sAt {r : Row} (v : Yvd r) (f w : Int) : R32 (sAt r f w) := by
  unfold sAt
  split
  · have h1 := (ysA_is v (f := f.toNat) (by omega)).1
    have h2 := ysh_bd v (f := f.toNat) (by omega)
    have := yn_le v
    split <;> omega
  · exact r32m1
theorem K74 (hh : RfH h) {r : Row} (t : Ytk F 1 r) (v : Yvd r) {f w : Int} (ri : R32 f) (rw' : R32 w) (H : ∀ (x : Int) (F' : Nat → Nat → Int), x = sAt r f w → (∀ p, p < 275 ∨ 281 ≤ p → F' p = F p) → Q (some (vi x)) (Wd S L F' G h)) : C74_0 f w (Wd S L F G h) Q := by
  have hT := yM_n v
  refine T74_0 hh (K1 hh t v (fun F1 c f1 => ⟨_, rfl, rfl, ri, ?_⟩))
  obtain ⟨d1, d2, d3, d4, d5, d6⟩ := c
  rw [d4]
  split
  · exact H _ F1 (by unfold sAt; rw [if_neg (by omega)]) f1
  refine ⟨by omega, ?_⟩
  split
  · exact H _ F1 (by unfold sAt; rw [if_neg (by omega)]) f1
  obtain ⟨e1, e2⟩ := d5 f.toNat (by omega)
  rw [e1, e2]
  refine ⟨rw', ?_⟩
  split
  · rename_i c0
    refine ⟨by omega, H _ F1 ?_ f1⟩
    unfold sAt
    rw [if_pos (by omega), if_pos c0]
  split
  · rename_i c0 c1
    refine ⟨by omega, H _ F1 ?_ f1⟩
    unfold sAt
    rw [if_pos (by omega), if_neg c0]
  · exact H _ F1 (by unfold sAt; rw [if_neg (by omega)]) f1
theorem K127 (hh : RfH h) {r : Row} (er : F 298 = r) (v : Yvd r) {f w : Int} (ri : R32 f) (rw' : R32 w) (H : ∀ (x : Int) (F' : Nat → Nat → Int), x = sAt r f w → (∀ p, p ≠ 307 → p ≠ 308 → p ≠ 309 → F' p = F p) → Q (some (vi x)) (Wd S L F' G h)) : C127_0 f w (Wd S L F G h) Q := by
  have hT := yM_n v
  have hn := v.n
  refine T127_0 hh ⟨ri, ?_⟩
  rw [er]
  refine K120r hh er v hn ⟨_, rfl, rfl, ?_⟩
  have eM : yM r (r 0).toNat = yM r (yn r) := rfl
  rw [eM]
  refine ⟨by omega, ?_⟩
  split
  · exact H _ F (by unfold sAt; rw [if_neg (by omega)]) (fun p _ _ _ => rfl)
  split
  · exact H _ F (by unfold sAt; rw [if_neg (by omega)]) (fun p _ _ _ => rfl)
  refine ⟨rw', ?_⟩
  split
  · exact H _ F (by unfold sAt; rw [if_neg (by omega)]) (fun p _ _ _ => rfl)
  split
  · exact H _ F (by unfold sAt; rw [if_neg (by omega)]) (fun p _ _ _ => rfl)
  refine K121 hh er v (fun F1 ly f1 => ⟨_, rfl, rfl, ?_⟩)
  have e8 : F1 298 = r := by rw [f1 298 (by decide) (by decide) (by decide)]; exact er
  refine K124 hh v (fun i hi => (ly i hi).1) (by omega) ⟨_, rfl, rfl, ?_⟩
  have hA := (ysA_is v (f := f.toNat) (by omega)).1
  have hy := yn_le v
  split
  · rename_i c0
    refine H _ F1 ?_ f1
    unfold sAt
    rw [if_pos (by omega), if_pos c0]
  · rename_i c0
    have hs := v.sg (ysA r f.toNat) (by omega)
    have g1 : (46 + ((ysA r f.toNat : Nat) : Int)).toNat = 46 + ysA r f.toNat := by omega
    have g2 : (22 + r (46 + ysA r f.toNat)).toNat = 22 + (r (46 + ysA r f.toNat)).toNat := by omega
    rw [e8, g1, g2]
    refine ⟨by omega, by omega, H _ F1 ?_ f1⟩
    unfold sAt
    rw [if_pos (by omega), if_neg c0]
    rfl
theorem O440 {xs : Nat → Int} (I : Inv F G h xs) {x3 : Int} (hx : 0 ≤ x3 ∧ x3 + 6 ≤ (L : Int)) (hL : L ≤ 3072) (K : ∀ (F' G' : Nat → Nat → Int) (h' : Nat → Nat → Option Nat), Inv F' G' h' xs → C201_18 (x3 + 6) (Wd S L F' G' h') Q) : C201_440 x3 (Wd S L F G h) Q := by
  have hh := I.1
  obtain ⟨t, v⟩ := I.row
  have hR : ∀ k, R32 (F 9999 k) := I.r32
  refine T201_440 hh ⟨by omega, by omega, by omega, by omega, ?_⟩
  refine K74 hh t v (hR _) (hR _) (fun x F1 e f1 => ⟨_, _, rfl, rfl, ?_⟩)
  rw [f1 9999 (by omega)]
  refine K127 hh (r := F 298) (f1 298 (by omega)) v (hR _) (hR _) (fun y F2 e2 f2 => ⟨_, _, rfl, rfl, ?_⟩)
  rw [e, e2]
  refine ⟨R32_sAt v _ _, R32_sAt v _ _, ?_⟩
  rw [if_pos rfl]
  exact K F2 G h (I.same (fun p hp => by rw [f2 p (by omega) (by omega) (by omega), f1 p (by omega)]) (fun k hk => by rw [f2 297 (by decide) (by decide) (by decide), f1 297 (by omega)]) (by rw [f2 284 (by decide) (by decide) (by decide), f1 284 (by omega)]))
def sCount (r : Row) (np : Int) (w : Int) : Int := if w = 0 then r 0 else if w = 1 then yM r (yn r) else if w = 2 then ysm (fun k => r (58 + k)) (yn r) else if w = 3 then ysm (yzr r) (yn r) else if w = 4 then ysm (ylo r) (yn r) else if w = 5 then (yhs (ysh r) (yM r (yn r)).toNat).1 else if w = 6 then (yhs (ysh r) (yM r (yn r)).toNat).2.2.1 else if w = 7 then (if yM r (yn r) = 0 then -4 else (yhs (ysh r) (yM r (yn r)).toNat).2.2.2) else if w = 8 then r 4 else if w = 9 then r 1 else if w = 10 then np else -1
theorem R32_sCount {r : Row} (v : Yvd r) {np : Int} (hp : 0 ≤ np ∧ np ≤ 6) (w : Int) : R32 (sCount r np w) := by
  have h1 := v.n
  have h2 := yM_n v
  have h3 := ysm_bd12 v (n := yn r) (yn_le v)
  have h4 := ysm_flag (f := yzr r) (n := yn r) (fun i _ => by unfold yzr; split <;> omega)
  have h5 := ysm_flag (f := ylo r) (n := yn r) (fun i _ => ylo_bd r i)
  have h6 := yhs_bd (ysh r) (yM r (yn r)).toNat
  have h7 := yn_le v
  have h8 := v.wi
  have h9 := v.w
  unfold sCount
  repeat' split
  all_goals first | omega | decide
theorem K75 (hh : RfH h) {r : Row} (t : Ytk F 1 r) (v : Yvd r) {np w : Int} (ep : F 37 1 = np) (rw' : R32 w) (H : ∀ (x : Int) (F' : Nat → Nat → Int), x = sCount r np w → (∀ p, p < 275 ∨ 281 ≤ p → F' p = F p) → Q (some (vi x)) (Wd S L F' G h)) : C75_0 w (Wd S L F G h) Q := by
  have hT := yM_n v
  have hn := v.n
  refine T75_0 hh (K1 hh t v (fun F1 c f1 => ⟨_, rfl, rfl, rw', ?_⟩))
  have t1 : Ytk F1 1 r := t.cong (fun x h1 h2 => f1 x (by omega))
  obtain ⟨d1, d2, d3, d4, d5, d6, d7, d8⟩ := c
  have e6 := t1.n1
  by_cases c0 : w = 0
  · rw [if_pos c0]
    exact H _ F1 (by unfold sCount; rw [if_pos c0]; exact e6) f1
  rw [if_neg c0]
  by_cases c1 : w = 1
  · rw [if_pos c1]
    exact H _ F1 (by unfold sCount; rw [if_neg c0, if_pos c1]; exact d4) f1
  rw [if_neg c1]
  by_cases c2 : w = 2
  · rw [if_pos c2]
    rw [e6]
    exact K27 hh t1 hn ⟨_, rfl, rfl, H _ F1 (by unfold sCount; rw [if_neg c0, if_neg c1, if_pos c2]; rfl) f1⟩
  rw [if_neg c2]
  by_cases c3 : w = 3
  · rw [if_pos c3]
    exact H _ F1 (by unfold sCount; rw [if_neg c0, if_neg c1, if_neg c2, if_pos c3]; exact d2) f1
  rw [if_neg c3]
  by_cases c4 : w = 4
  · rw [if_pos c4]
    exact H _ F1 (by unfold sCount; rw [if_neg c0, if_neg c1, if_neg c2, if_neg c3, if_pos c4]; exact d3) f1
  rw [if_neg c4]
  by_cases c5 : w = 5
  · rw [if_pos c5]
    exact H _ F1 (by unfold sCount; rw [if_neg c0, if_neg c1, if_neg c2, if_neg c3, if_neg c4, if_pos c5]; exact d6) f1
  rw [if_neg c5]
  by_cases c6 : w = 6
  · rw [if_pos c6]
    exact H _ F1 (by unfold sCount; rw [if_neg c0, if_neg c1, if_neg c2, if_neg c3, if_neg c4, if_neg c5, if_pos c6]; exact d7) f1
  rw [if_neg c6]
  by_cases c7 : w = 7
  · rw [if_pos c7]
    have es : sCount r np w = if yM r (yn r) = 0 then -4 else (yhs (ysh r) (yM r (yn r)).toNat).2.2.2 := by unfold sCount; rw [if_neg c0, if_neg c1, if_neg c2, if_neg c3, if_neg c4, if_neg c5, if_neg c6, if_pos c7]
    rw [d4]
    refine ⟨by omega, ?_⟩
    split
    · rename_i c8
      exact H _ F1 (by rw [es, if_pos c8]) f1
    · rename_i c8
      exact H _ F1 (by rw [es, if_neg c8]; exact d8) f1
  rw [if_neg c7]
  by_cases c8 : w = 8
  · rw [if_pos c8]
    exact H _ F1 (by unfold sCount; rw [if_neg c0, if_neg c1, if_neg c2, if_neg c3, if_neg c4, if_neg c5, if_neg c6, if_neg c7, if_pos c8]; exact t1.wi1) f1
  rw [if_neg c8]
  by_cases c9 : w = 9
  · rw [if_pos c9]
    exact H _ F1 (by unfold sCount; rw [if_neg c0, if_neg c1, if_neg c2, if_neg c3, if_neg c4, if_neg c5, if_neg c6, if_neg c7, if_neg c8, if_pos c9]; exact t1.w1) f1
  rw [if_neg c9]
  by_cases c10 : w = 10
  · rw [if_pos c10]
    exact H _ F1 (by unfold sCount; rw [if_neg c0, if_neg c1, if_neg c2, if_neg c3, if_neg c4, if_neg c5, if_neg c6, if_neg c7, if_neg c8, if_neg c9, if_pos c10, f1 37 (by omega)]; exact ep) f1
  · rw [if_neg c10]
    exact H _ F1 (by unfold sCount; rw [if_neg c0, if_neg c1, if_neg c2, if_neg c3, if_neg c4, if_neg c5, if_neg c6, if_neg c7, if_neg c8, if_neg c9, if_neg c10]) f1
theorem K130 (hh : RfH h) {r : Row} (er : F 298 = r) (v : Yvd r) {np w : Int} (ep : F 297 2 = np) (rw' : R32 w) (H : ∀ (x : Int) (F' : Nat → Nat → Int), x = sCount r np w → (∀ j, j ≠ 15 → j ≠ 16 → j ≠ 17 → F' 297 j = F 297 j) → (∀ p, p ≠ 297 → p ≠ 307 → p ≠ 308 → p ≠ 309 → F' p = F p) → Q (some (vi x)) (Wd S L F' G h)) : C130_0 w (Wd S L F G h) Q := by
  have hT := yM_n v
  have hn := v.n
  refine T130_0 hh (K128 hh er v (fun F1 ly d6 d7 d8 f7 f1 => ⟨_, rfl, rfl, rw', ?_⟩))
  have e8 : F1 298 = r := by rw [f1 298 (by decide) (by decide) (by decide) (by decide)]; exact er
  rw [e8]
  by_cases c0 : w = 0
  · rw [if_pos c0]
    exact H _ F1 (by unfold sCount; rw [if_pos c0]) f7 f1
  rw [if_neg c0]
  by_cases c1 : w = 1
  · rw [if_pos c1]
    exact K120r hh e8 v hn ⟨_, rfl, rfl, H _ F1 (by unfold sCount; rw [if_neg c0, if_pos c1]; rfl) f7 f1⟩
  rw [if_neg c1]
  by_cases c2 : w = 2
  · rw [if_pos c2]
    refine K118 hh hn ⟨_, rfl, rfl, H _ F1 ?_ f7 f1⟩
    rw [e8]
    unfold sCount; rw [if_neg c0, if_neg c1, if_pos c2]; rfl
  rw [if_neg c2]
  by_cases c3 : w = 3
  · rw [if_pos c3]
    refine K129 hh e8 v ly (Or.inl rfl) ⟨_, rfl, rfl, H _ F1 ?_ f7 f1⟩
    rw [if_pos rfl]
    unfold sCount; rw [if_neg c0, if_neg c1, if_neg c2, if_pos c3]
  rw [if_neg c3]
  by_cases c4 : w = 4
  · rw [if_pos c4]
    refine K129 hh e8 v ly (Or.inr rfl) ⟨_, rfl, rfl, H _ F1 ?_ f7 f1⟩
    rw [if_neg (by decide)]
    unfold sCount; rw [if_neg c0, if_neg c1, if_neg c2, if_neg c3, if_pos c4]
  rw [if_neg c4]
  by_cases c5 : w = 5
  · rw [if_pos c5]
    exact H _ F1 (by unfold sCount; rw [if_neg c0, if_neg c1, if_neg c2, if_neg c3, if_neg c4, if_pos c5]; exact d6) f7 f1
  rw [if_neg c5]
  by_cases c6 : w = 6
  · rw [if_pos c6]
    exact H _ F1 (by unfold sCount; rw [if_neg c0, if_neg c1, if_neg c2, if_neg c3, if_neg c4, if_neg c5, if_pos c6]; exact d7) f7 f1
  rw [if_neg c6]
  by_cases c7 : w = 7
  · rw [if_pos c7]
    exact H _ F1 (by unfold sCount; rw [if_neg c0, if_neg c1, if_neg c2, if_neg c3, if_neg c4, if_neg c5, if_neg c6, if_pos c7]; exact d8) f7 f1
  rw [if_neg c7]
  by_cases c8 : w = 8
  · rw [if_pos c8]
    exact H _ F1 (by unfold sCount; rw [if_neg c0, if_neg c1, if_neg c2, if_neg c3, if_neg c4, if_neg c5, if_neg c6, if_neg c7, if_pos c8]) f7 f1
  rw [if_neg c8]
  by_cases c9 : w = 9
  · rw [if_pos c9]
    exact H _ F1 (by unfold sCount; rw [if_neg c0, if_neg c1, if_neg c2, if_neg c3, if_neg c4, if_neg c5, if_neg c6, if_neg c7, if_neg c8, if_pos c9]) f7 f1
  rw [if_neg c9]
  by_cases c10 : w = 10
  · rw [if_pos c10]
    exact H _ F1 (by unfold sCount; rw [if_neg c0, if_neg c1, if_neg c2, if_neg c3, if_neg c4, if_neg c5, if_neg c6, if_neg c7, if_neg c8, if_neg c9, if_pos c10, f7 2 (by decide) (by decide) (by decide)]; exact ep) f7 f1
  · rw [if_neg c10]
    exact H _ F1 (by unfold sCount; rw [if_neg c0, if_neg c1, if_neg c2, if_neg c3, if_neg c4, if_neg c5, if_neg c6, if_neg c7, if_neg c8, if_neg c9, if_neg c10]) f7 f1
theorem O473 {xs : Nat → Int} (I : Inv F G h xs) {x3 : Int} (hx : 0 ≤ x3 ∧ x3 + 6 ≤ (L : Int)) (hL : L ≤ 3072) (K : ∀ (F' G' : Nat → Nat → Int) (h' : Nat → Nat → Option Nat), Inv F' G' h' xs → C201_18 (x3 + 6) (Wd S L F' G' h') Q) : C201_473 x3 (Wd S L F G h) Q := by
  have hh := I.1
  obtain ⟨t, v⟩ := I.row
  have hR : ∀ k, R32 (F 9999 k) := I.r32
  refine T201_473 hh ⟨by omega, by omega, ?_⟩
  obtain ⟨n, i1, c1, c2, ⟨q, c3, c4⟩, c5⟩ := I.2.1
  have hn6 := c4.2.1
  refine K75 hh t v (np := (n : Int)) c4.1 (hR _) (fun x F1 e f1 => ⟨_, _, rfl, rfl, ?_⟩)
  rw [f1 9999 (by omega)]
  refine K130 hh (r := F 298) (f1 298 (by omega)) v (np := (n : Int)) (by rw [f1 297 (by omega)]; exact i1) (hR _) (fun y F2 e2 f7 f2 => ⟨_, _, rfl, rfl, ?_⟩)
  rw [e, e2]
  refine ⟨R32_sCount v (by omega) _, R32_sCount v (by omega) _, ?_⟩
  rw [if_pos rfl]
  exact K F2 G h (I.same (fun p hp => by rw [f2 p (by omega) (by omega) (by omega) (by omega), f1 p (by omega)]) (fun k hk => by rw [f7 k (by omega) (by omega) (by omega), f1 297 (by omega)]) (by rw [f2 284 (by decide) (by decide) (by decide) (by decide), f1 284 (by omega)]))
def sFilm (F : Nat → Nat → Int) (n s l i : Int) : Int := if sRow F s l < 0 then sRow F s l else if 0 ≤ i ∧ n ≤ F 304 s.toNat - i then n else -13
theorem R32_sFilm (F : Nat → Nat → Int) {n : Int} (hn : 0 ≤ n ∧ n ≤ 12) (s l i : Int) : R32 (sFilm F n s l i) := by
  unfold sFilm
  have := (sRow_neg F s l).1
  repeat' split
  · exact this
  · omega
  · decide
theorem L93 (hh : RfH h) {n s i : Nat} (hn : n ≤ 12) (hs : s < 4) (hi : i + n ≤ 24) {l : Int} (hl : 0 ≤ l ∧ l ≤ 3) (e6 : F 1 6 = (n : Int)) (el : F (289 + 2 * s) 1 = l) {f : Nat → Int} (ef : ∀ k, k < n → F 276 k = f k) (hf : ∀ k, k < n → R32 (f k)) (H : ∀ G' : Nat → Nat → Int, (∀ x, G' (290 + 2 * s) x = if i ≤ x ∧ x < i + n then sCut l (f (x - i)) else G (290 + 2 * s) x) → (∀ p, p ≠ 290 + 2 * s → G' p = G p) → Q (some (vi (n : Int))) (Wd S L F G' h)) :
    ∀ (m k : Nat) (G1 : Nat → Nat → Int), k + m = n → (∀ x, G1 (290 + 2 * s) x = if i ≤ x ∧ x < i + k then sCut l (f (x - i)) else G (290 + 2 * s) x) → (∀ p, p ≠ 290 + 2 * s → G1 p = G p) → C93_53 (s : Int) (i : Int) (k : Int) (Wd S L F G1 h) Q
  | 0, k, G1, e, h1, h2 => by
    have : k = n := by omega
    subst this
    refine T93_53 hh ⟨by omega, by omega, ?_⟩
    rw [if_pos (by omega), e6]
    exact H G1 h1 h2
  | m + 1, k, G1, e, h1, h2 => by
    have sp : YSP (289 + 2 * s) := ⟨s, hs, rfl⟩
    have es : ((s : Nat) : Int).toNat = s := by omega
    have ek : ((k : Nat) : Int).toNat = k := by omega
    have eik : ((i : Int) + (k : Int)).toNat = i + k := by omega
    have hfk := hf k (by omega)
    refine T93_53 hh ⟨by omega, by omega, ?_⟩
    rw [if_neg (by omega), es, ek, ef k (by omega)]
    refine ⟨by omega, by omega, hfk, K21 hh sp (by omega) (by omega) ⟨_, rfl, rfl, ?_⟩⟩
    rw [eik, el, show 289 + 2 * s + 1 = 290 + 2 * s by omega]
    refine L93 hh hn hs hi hl e6 el ef hf H m (k + 1) _ (by omega) (fun x => ?_) (fun p hp => by rw [up_out hp, h2 p hp])
    rw [up_at]
    by_cases q : x = i + k
    · rw [if_pos q, if_pos (by omega), q, show i + k - i = k by omega]
    · rw [if_neg q, h1 x]
      by_cases q2 : i ≤ x ∧ x < i + k
      · rw [if_pos q2, if_pos (by omega)]
      · rw [if_neg q2, if_neg (by omega)]
theorem K93 (hh : RfH h) {r : Row} (t : Ytk F 1 r) (v : Yvd r) (c : Ysheet F G) {s l i : Int} (rs : R32 s) (rl : R32 l) (ri : R32 i) (Hb : sFilm F (r 0) s l i < 0 → Q (some (vi (sFilm F (r 0) s l i))) (Wd S L F G h))
    (H : 0 ≤ sFilm F (r 0) s l i → (0 ≤ s ∧ s ≤ 3 ∧ 0 ≤ l ∧ l ≤ 3 ∧ 0 ≤ i ∧ i + r 0 ≤ 24) → ∀ (F' G' : Nat → Nat → Int), (∀ p, p < 275 ∨ 281 ≤ p → F' p = F p) → (∀ x, G' (290 + 2 * s.toNat) x = if i.toNat ≤ x ∧ x < i.toNat + yn r then sCut l (yfr' r (x - i.toNat)) else G (290 + 2 * s.toNat) x) → (∀ p, p ≠ 290 + 2 * s.toNat → G' p = G p) → Q (some (vi (sFilm F (r 0) s l i))) (Wd S L F' G' h)) : C93_0 s l i (Wd S L F G h) Q := by
  have hn := v.n
  have hy := yn_le v
  obtain ⟨q1, q2⟩ := sRow_neg F s l
  refine T93_0 hh (K100 hh c rs rl ⟨_, rfl, rfl, q1, ?_⟩)
  rcases q2 with q2 | ⟨q2, a1, a2, a3, a4, a5, a6⟩
  · rw [if_neg (by omega)]
    have e : sFilm F (r 0) s l i = sRow F s l := by unfold sFilm; rw [if_pos q2]
    rw [e] at Hb
    exact Hb q2
  · rw [if_pos (by omega)]
    have h1 := c.1 s.toNat (by omega)
    have sp : YSP (289 + 2 * s.toNat) := ⟨s.toNat, by omega, rfl⟩
    rw [t.n1]
    refine ⟨by omega, K20 hh sp (by omega) ri (by omega) ⟨_, rfl, rfl, ?_⟩⟩
    split
    · rename_i hc
      refine ⟨by decide, ?_⟩
      rw [if_neg (by decide)]
      have e : sFilm F (r 0) s l i = r 0 := by unfold sFilm; rw [if_neg (by omega), if_pos (by omega)]
      rw [e] at H
      refine K1 hh t v (fun F1 cc f1 => ⟨_, rfl, rfl, ?_⟩)
      have t1 : Ytk F1 1 r := t.cong (fun x h1 h2 => f1 x (by omega))
      have hyn : ((yn r : Nat) : Int) = r 0 := by unfold yn; omega
      have := L93 (F := F1) (G := G) (S := S) (L := L) (Q := Q) hh (n := yn r) (s := s.toNat) (i := i.toNat) hy (by omega) (by omega) (l := l) (by omega) (by rw [t1.n1]; omega) (by rw [f1 _ (by omega)]; omega) (f := yfr' r) (fun k hk => (cc.1 k hk).1) (fun k hk => by have := yfr_bd' v hk; omega) (fun G1 g1 g2 => ?_) (yn r) 0 G (by omega) (fun x => by rw [if_neg (by omega)]) (fun p hp => rfl)
      · rw [show ((s.toNat : Nat) : Int) = s by omega, show ((i.toNat : Nat) : Int) = i by omega] at this
        exact this
      · rw [hyn]
        exact H (by omega) (by omega) F1 G1 f1 g1 g2
    · rename_i hc
      refine ⟨by decide, ?_⟩
      rw [if_pos rfl]
      have e : sFilm F (r 0) s l i = -13 := by unfold sFilm; rw [if_neg (by omega), if_neg (by omega)]
      rw [e] at Hb
      exact Hb (by decide)
theorem L195 (hh : RfH h) {n s i : Nat} (hn : n ≤ 12) (hs : s < 4) (hi : i + n ≤ 24) {l : Int} (hl : R32 l) (e6 : F 298 0 = (n : Int)) {f : Nat → Int} (ef : ∀ k, k < n → F 307 k = f k) (hf : ∀ k, k < n → R32 (f k)) (H : ∀ G' : Nat → Nat → Int, (∀ x, G' 305 x = if 24 * s + i ≤ x ∧ x < 24 * s + i + n then sCut l (f (x - (24 * s + i))) else G 305 x) → (∀ p, p ≠ 305 → G' p = G p) → Q (some (vi (n : Int))) (Wd S L F G' h)) :
    ∀ (m k : Nat) (G1 : Nat → Nat → Int), k + m = n → (∀ x, G1 305 x = if 24 * s + i ≤ x ∧ x < 24 * s + i + k then sCut l (f (x - (24 * s + i))) else G 305 x) → (∀ p, p ≠ 305 → G1 p = G p) → C195_51 (s : Int) l (i : Int) (k : Int) (Wd S L F G1 h) Q
  | 0, k, G1, e, h1, h2 => by
    have : k = n := by omega
    subst this
    refine T195_51 hh ⟨by omega, by omega, ?_⟩
    rw [if_pos (by omega), e6]
    exact H G1 h1 h2
  | m + 1, k, G1, e, h1, h2 => by
    have ek : ((k : Nat) : Int).toNat = k := by omega
    have eik : (24 * (s : Int) + (i : Int) + (k : Int)).toNat = 24 * s + i + k := by omega
    have hfk := hf k (by omega)
    refine T195_51 hh ⟨by omega, by omega, ?_⟩
    rw [if_neg (by omega), ek, ef k (by omega)]
    refine ⟨by omega, hfk, K192 hh hl ⟨_, rfl, rfl, by omega, ?_⟩⟩
    rw [eik]
    refine L195 hh hn hs hi hl e6 ef hf H m (k + 1) _ (by omega) (fun x => ?_) (fun p hp => by rw [up_out hp, h2 p hp])
    rw [up_at]
    by_cases q : x = 24 * s + i + k
    · rw [if_pos q, if_pos (by omega), q, show 24 * s + i + k - (24 * s + i) = k by omega]
    · rw [if_neg q, h1 x]
      by_cases q2 : 24 * s + i ≤ x ∧ x < 24 * s + i + k
      · rw [if_pos q2, if_pos (by omega)]
      · rw [if_neg q2, if_neg (by omega)]
theorem K195 (hh : RfH h) {r : Row} (er : F 298 = r) (v : Yvd r) {G0 : Nat → Nat → Int} (c : Ysheet F G0) {s l i : Int} (rs : R32 s) (rl : R32 l) (ri : R32 i) (Hb : sFilm F (r 0) s l i < 0 → Q (some (vi (sFilm F (r 0) s l i))) (Wd S L F G h))
    (H : 0 ≤ sFilm F (r 0) s l i → ∀ (F' G' : Nat → Nat → Int), (∀ p, p ≠ 307 → p ≠ 308 → p ≠ 309 → F' p = F p) → (∀ x, G' 305 x = if 24 * s.toNat + i.toNat ≤ x ∧ x < 24 * s.toNat + i.toNat + yn r then sCut l (yfr' r (x - (24 * s.toNat + i.toNat))) else G 305 x) → (∀ p, p ≠ 305 → G' p = G p) → Q (some (vi (sFilm F (r 0) s l i))) (Wd S L F' G' h)) : C195_0 s l i (Wd S L F G h) Q := by
  have hn := v.n
  have hy := yn_le v
  have bad : ¬ (0 ≤ s ∧ s ≤ 3 ∧ 0 ≤ l ∧ l ≤ 3) → Q (some (vi (-1))) (Wd S L F G h) := fun hb => by
    have e : sFilm F (r 0) s l i = -1 := by unfold sFilm sRow; rw [if_neg hb, if_pos (by decide)]
    rw [e] at Hb
    exact Hb (by decide)
  refine T195_0 hh ⟨rs, ?_⟩
  split
  · exact bad (by omega)
  split
  · exact bad (by omega)
  refine ⟨rl, ?_⟩
  split
  · exact bad (by omega)
  split
  · exact bad (by omega)
  have h1 := c.1 s.toNat (by omega)
  rw [er]
  refine K193 hh c (by omega) (by omega) ri (by omega) ⟨_, rfl, rfl, ?_⟩
  rw [sFound_row (by omega) (by omega)]
  obtain ⟨q1, q2⟩ := sRow_neg F s l
  unfold sFilm at Hb H
  by_cases c1 : sRow F s l < 0
  · rw [if_pos c1] at Hb ⊢
    refine ⟨q1, ?_⟩
    rw [if_neg (by omega)]
    exact Hb c1
  · rw [if_neg c1] at Hb H ⊢
    by_cases c2 : 0 ≤ i ∧ r 0 ≤ F 304 s.toNat - i
    · rw [if_pos c2] at H ⊢
      refine ⟨by decide, ?_⟩
      rw [if_pos (by decide)]
      refine K121 hh er v (fun F1 ly f1 => ⟨_, rfl, rfl, ?_⟩)
      have e8 : F1 298 = r := by rw [f1 298 (by decide) (by decide) (by decide)]; exact er
      have hyn : ((yn r : Nat) : Int) = r 0 := by unfold yn; omega
      have hbd : F 304 s.toNat ≤ 24 := by omega
      have := L195 (F := F1) (G := G) (S := S) (L := L) (Q := Q) hh (n := yn r) (s := s.toNat) (i := i.toNat) hy (by omega) (by omega) (l := l) rl (by rw [e8]; omega) (f := yfr' r) (fun k hk => (ly k hk).1) (fun k hk => by have := yfr_bd' v hk; omega) (fun G1 g1 g2 => ?_) (yn r) 0 G (by omega) (fun x => by rw [if_neg (by omega)]) (fun p hp => rfl)
      · rw [show ((s.toNat : Nat) : Int) = s by omega, show ((i.toNat : Nat) : Int) = i by omega] at this
        exact this
      · rw [hyn]
        exact H (by omega) F1 G1 f1 g1 g2
    · rw [if_neg c2] at Hb ⊢
      refine ⟨by decide, ?_⟩
      rw [if_neg (by decide)]
      exact Hb (by decide)
theorem O969 {xs : Nat → Int} (I : Inv F G h xs) {x3 : Int} (hx : 0 ≤ x3 ∧ x3 + 6 ≤ (L : Int)) (hL : L ≤ 3072) (K : ∀ (F' G' : Nat → Nat → Int) (h' : Nat → Nat → Option Nat), Inv F' G' h' xs → C201_18 (x3 + 6) (Wd S L F' G' h') Q) : C201_969 x3 (Wd S L F G h) Q := by
  have hh := I.1
  obtain ⟨t, v⟩ := I.row
  have hR : ∀ k, R32 (F 9999 k) := I.r32
  refine T201_969 hh ⟨by omega, by omega, by omega, by omega, by omega, by omega, ?_⟩
  have c := I.2.2.2.2.1
  have hn := v.n
  have ra := hR (x3 + 1).toNat
  have rb := hR (x3 + 2).toNat
  have rc := hR (x3 + 3).toNat
  generalize ha : F 9999 (x3 + 1).toNat = a at ra ⊢
  generalize hb : F 9999 (x3 + 2).toNat = b at rb ⊢
  generalize hc : F 9999 (x3 + 3).toNat = d at rc ⊢
  refine K93 hh t v c ra rb rc (fun hneg => ⟨_, _, _, rfl, rfl, ?_⟩) (fun hpos ok F1 G1 f1 g1 g2 => ⟨_, _, _, rfl, rfl, ?_⟩)
  · rw [ha, hb, hc]
    refine K195 hh rfl v c ra rb rc (fun _ => ⟨_, _, _, rfl, rfl, R32_sFilm F hn _ _ _, R32_sFilm F hn _ _ _, ?_⟩) (fun hpos => by omega)
    rw [if_pos rfl]
    exact K F G h I
  · rw [f1 9999 (by omega), ha, hb, hc]
    have cF : Ysheet F1 G := c.cong (fun p h1 h2 => f1 p (by omega)) (f1 303 (by omega)) (f1 304 (by omega))
    have eFilm : sFilm F1 (F 298 0) a b d = sFilm F (F 298 0) a b d := by
      unfold sFilm sRow
      rw [f1 303 (by omega), f1 304 (by omega)]
    refine K195 hh (r := F 298) (f1 298 (by omega)) v cF ra rb rc (fun hneg => by rw [eFilm] at hneg; omega) (fun _ F2 G2 f2 k1 k2 => ⟨_, _, _, rfl, rfl, R32_sFilm F hn _ _ _, by rw [eFilm]; exact R32_sFilm F hn _ _ _, ?_⟩)
    rw [eFilm, if_pos rfl]
    have I1 : Inv F2 G h xs := I.same (fun p hp => by rw [f2 p (by omega) (by omega) (by omega), f1 p (by omega)]) (fun k hk => by rw [f2 297 (by decide) (by decide) (by decide), f1 297 (by omega)]) (by rw [f2 284 (by decide) (by decide) (by decide), f1 284 (by omega)])
    have hy := yn_le v
    have hyn : ((yn (F 298) : Nat) : Int) = F 298 0 := by unfold yn; omega
    refine K F2 G2 h (I1.sheet (fun p h1 h2 h3 => rfl) ⟨I1.2.2.2.2.1.1, fun s hs k hk => ?_⟩)
    rw [k1, k2 _ (by omega)]
    by_cases q : s = a.toNat
    · subst q
      rw [g1, g2 305 (by omega)]
      by_cases q2 : d.toNat ≤ k ∧ k < d.toNat + yn (F 298)
      · rw [if_pos q2, if_pos (by omega), show 24 * a.toNat + k - (24 * a.toNat + d.toNat) = k - d.toNat by omega]
        refine ⟨rfl, R64_sCut ?_⟩
        have := yfr_bd' v (i := k - d.toNat) (by omega)
        omega
      · rw [if_neg q2, if_neg (by omega)]
        exact c.2 _ (by omega) k hk
    · rw [g2 _ (by omega), if_neg (by omega), g2 305 (by omega)]
      exact c.2 s hs k hk
end SEEN
