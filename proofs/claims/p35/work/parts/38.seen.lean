/-! sounds, at, count, film -/
section SEEN
variable {S L : Nat} {F G : Nat → Nat → Int} {h : Nat → Nat → Option Nat} {Q : Option V2 → W2 → Prop}
def sSounds (r : Row) (i w : Int) : Int := if 0 ≤ i ∧ i < r 0 then (if w = 0 then r (46 + i.toNat) else if w = 1 then r (58 + i.toNat) else if w = 2 then ysm (fun k => r (58 + k)) i.toNat else if w = 3 then ysm (yfr' r) i.toNat else if w = 4 then yfr' r i.toNat else if w = 5 then yln r i.toNat else if w = 6 then ylo r i.toNat else -1) else -1
theorem yfr_part {r : Row} (v : Yvd r) {i : Nat} (hi : i ≤ yn r) : 0 ≤ ysm (yfr' r) i ∧ ysm (yfr' r) i ≤ 100 := by
  have h1 := yfr_mono v (a := i) (b := yn r) hi (Nat.le_refl _)
  have h2 := yfr_mono v (a := 0) (b := i) (by omega) hi
  have h3 := yfr_sum v
  have h4 := yM_n v
  have h0 : ysm (yfr' r) 0 = 0 := rfl
  omega
theorem R32_sSounds {r : Row} (v : Yvd r) (i w : Int) : R32 (sSounds r i w) := by
  have hn := v.n
  unfold sSounds
  split
  · have h1 := v.sg i.toNat (by omega)
    have h2 := v.tm i.toNat (by omega)
    have h3 := ysm_bd12 v (n := i.toNat) (by omega)
    have h4 := yfr_part v (i := i.toNat) (by unfold yn; omega)
    have h5 := yfr_bd' v (i := i.toNat) (by unfold yn; omega)
    have h6 := yln_bd r i.toNat
    have h7 := ylo_bd r i.toNat
    repeat' split
    all_goals omega
  · exact r32m1
theorem K73 (hh : RfH h) {r : Row} (t : Ytk F 1 r) (v : Yvd r) {i w : Int} (ri : R32 i) (rw' : R32 w) (H : ∀ (x : Int) (F' : Nat → Nat → Int), x = sSounds r i w → (∀ p, p < 275 ∨ 281 ≤ p → F' p = F p) → Q (some (vi x)) (Wd S L F' G h)) : C73_0 i w (Wd S L F G h) Q := by
  have hn := v.n
  have e6 := t.n1
  refine T73_0 hh ⟨ri, ?_⟩
  rw [e6]
  split
  · exact H _ F (by unfold sSounds; rw [if_neg (by omega)]) (fun p hp => rfl)
  refine ⟨by omega, ?_⟩
  split
  · exact H _ F (by unfold sSounds; rw [if_neg (by omega)]) (fun p hp => rfl)
  have hin : 0 ≤ i ∧ i < r 0 := by omega
  have hiy : i.toNat < yn r := by unfold yn; omega
  refine K1 hh t v (fun F1 c f1 => ⟨_, rfl, rfl, rw', ?_⟩)
  have t1 : Ytk F1 1 r := t.cong (fun x h1 h2 => f1 x (by omega))
  obtain ⟨d1, d2⟩ := c
  obtain ⟨e1, e2, e3⟩ := d1 i.toNat hiy
  split
  · rename_i c0
    exact ⟨by omega, H _ F1 (by unfold sSounds; rw [if_pos hin, if_pos c0]; exact t1.sg1 _ (by omega)) f1⟩
  rename_i c0
  split
  · rename_i c1
    exact ⟨by omega, H _ F1 (by unfold sSounds; rw [if_pos hin, if_neg c0, if_pos c1]; exact t1.tm1 _ (by omega)) f1⟩
  rename_i c1
  split
  · rename_i c2
    exact K27 hh t1 (by omega) ⟨_, rfl, rfl, H _ F1 (by unfold sSounds; rw [if_pos hin, if_neg c0, if_neg c1, if_pos c2]) f1⟩
  rename_i c2
  split
  · rename_i c3
    have := K7 (F := F1) (G := G) (S := S) (L := L) hh (f := yfr' r) (n := i.toNat) (Q := fun v w1 => ∃ (v14 : Int), v = some (vi v14) ∧ w1 = (Wd S L F1 G h) ∧ Q (some (vi v14)) (Wd S L F1 G h)) (by omega) (fun j hj => (d1 j (by omega)).1) ⟨_, rfl, rfl, H _ F1 (by unfold sSounds; rw [if_pos hin, if_neg c0, if_neg c1, if_neg c2, if_pos c3]) f1⟩
    rw [show ((i.toNat : Nat) : Int) = i by omega] at this
    exact this
  rename_i c3
  split
  · rename_i c4
    exact ⟨by omega, H _ F1 (by unfold sSounds; rw [if_pos hin, if_neg c0, if_neg c1, if_neg c2, if_neg c3, if_pos c4]; exact e1) f1⟩
  rename_i c4
  split
  · rename_i c5
    exact ⟨by omega, H _ F1 (by unfold sSounds; rw [if_pos hin, if_neg c0, if_neg c1, if_neg c2, if_neg c3, if_neg c4, if_pos c5]; exact e2) f1⟩
  rename_i c5
  split
  · rename_i c6
    exact ⟨by omega, H _ F1 (by unfold sSounds; rw [if_pos hin, if_neg c0, if_neg c1, if_neg c2, if_neg c3, if_neg c4, if_neg c5, if_pos c6]; exact e3) f1⟩
  · rename_i c6
    exact H _ F1 (by unfold sSounds; rw [if_pos hin, if_neg c0, if_neg c1, if_neg c2, if_neg c3, if_neg c4, if_neg c5, if_neg c6]) f1
def sAt (r : Row) (f w : Int) : Int := if 0 ≤ f ∧ f < yM r (yn r) ∧ 0 ≤ w ∧ w ≤ 1 then (if w = 0 then (ysA r f.toNat : Int) else ysh r f.toNat) else -1
theorem R32_sAt {r : Row} (v : Yvd r) (f w : Int) : R32 (sAt r f w) := by
  unfold sAt
  split
  · have h1 := (ysA_is v (f := f.toNat) (by omega)).1
    have h2 := ysh_bd v (f := f.toNat) (by omega)
    have := yn_le v
    split <;> omega
  · exact r32m1
theorem K74 (hh : RfH h) {r : Row} (t : Ytk F 1 r) (v : Yvd r) {f w : Int} (ri : R32 f) (rw' : R32 w) (H : ∀ (x : Int) (F' : Nat → Nat → Int), x = sAt r f w → (∀ p, p < 275 ∨ 281 ≤ p → F' p = F p) → Q (some (vi x)) (Wd S L F' G h)) : C74_0 f w (Wd S L F G h) Q := by
  have hT := yM_n v
  refine T74_0 hh (K1 hh t v (fun F1 c f1 => ⟨_, rfl, rfl, ri, ?_⟩))
  obtain ⟨d1, d2, d3, d4, d5, d6⟩ := c
  rw [d4]
  split
  · exact H _ F1 (by unfold sAt; rw [if_neg (by omega)]) f1
  refine ⟨by omega, ?_⟩
  split
  · exact H _ F1 (by unfold sAt; rw [if_neg (by omega)]) f1
  obtain ⟨e1, e2⟩ := d5 f.toNat (by omega)
  rw [e1, e2]
  refine ⟨rw', ?_⟩
  split
  · rename_i c0
    refine ⟨by omega, H _ F1 ?_ f1⟩
    unfold sAt
    rw [if_pos (by omega), if_pos c0]
  split
  · rename_i c0 c1
    refine ⟨by omega, H _ F1 ?_ f1⟩
    unfold sAt
    rw [if_pos (by omega), if_neg c0]
  · exact H _ F1 (by unfold sAt; rw [if_neg (by omega)]) f1
def sCount (r : Row) (np : Int) (w : Int) : Int := if w = 0 then r 0 else if w = 1 then yM r (yn r) else if w = 2 then ysm (fun k => r (58 + k)) (yn r) else if w = 3 then ysm (yzr r) (yn r) else if w = 4 then ysm (ylo r) (yn r) else if w = 5 then (yhs (ysh r) (yM r (yn r)).toNat).1 else if w = 6 then (yhs (ysh r) (yM r (yn r)).toNat).2.2.1 else if w = 7 then (if yM r (yn r) = 0 then -4 else (yhs (ysh r) (yM r (yn r)).toNat).2.2.2) else if w = 8 then r 4 else if w = 9 then r 1 else if w = 10 then np else -1
theorem R32_sCount {r : Row} (v : Yvd r) {np : Int} (hp : 0 ≤ np ∧ np ≤ 6) (w : Int) : R32 (sCount r np w) := by
  have h1 := v.n
  have h2 := yM_n v
  have h3 := ysm_bd12 v (n := yn r) (yn_le v)
  have h4 := ysm_flag (f := yzr r) (n := yn r) (fun i _ => by unfold yzr; split <;> omega)
  have h5 := ysm_flag (f := ylo r) (n := yn r) (fun i _ => ylo_bd r i)
  have h6 := yhs_bd (ysh r) (yM r (yn r)).toNat
  have h7 := yn_le v
  have h8 := v.wi
  have h9 := v.w
  unfold sCount
  repeat' split
  all_goals first | omega | decide
theorem K75 (hh : RfH h) {r : Row} (t : Ytk F 1 r) (v : Yvd r) {np w : Int} (ep : F 37 1 = np) (rw' : R32 w) (H : ∀ (x : Int) (F' : Nat → Nat → Int), x = sCount r np w → (∀ p, p < 275 ∨ 281 ≤ p → F' p = F p) → Q (some (vi x)) (Wd S L F' G h)) : C75_0 w (Wd S L F G h) Q := by
  have hT := yM_n v
  have hn := v.n
  refine T75_0 hh (K1 hh t v (fun F1 c f1 => ⟨_, rfl, rfl, rw', ?_⟩))
  have t1 : Ytk F1 1 r := t.cong (fun x h1 h2 => f1 x (by omega))
  obtain ⟨d1, d2, d3, d4, d5, d6, d7, d8⟩ := c
  have e6 := t1.n1
  by_cases c0 : w = 0
  · rw [if_pos c0]
    exact H _ F1 (by unfold sCount; rw [if_pos c0]; exact e6) f1
  rw [if_neg c0]
  by_cases c1 : w = 1
  · rw [if_pos c1]
    exact H _ F1 (by unfold sCount; rw [if_neg c0, if_pos c1]; exact d4) f1
  rw [if_neg c1]
  by_cases c2 : w = 2
  · rw [if_pos c2]
    rw [e6]
    exact K27 hh t1 hn ⟨_, rfl, rfl, H _ F1 (by unfold sCount; rw [if_neg c0, if_neg c1, if_pos c2]; rfl) f1⟩
  rw [if_neg c2]
  by_cases c3 : w = 3
  · rw [if_pos c3]
    exact H _ F1 (by unfold sCount; rw [if_neg c0, if_neg c1, if_neg c2, if_pos c3]; exact d2) f1
  rw [if_neg c3]
  by_cases c4 : w = 4
  · rw [if_pos c4]
    exact H _ F1 (by unfold sCount; rw [if_neg c0, if_neg c1, if_neg c2, if_neg c3, if_pos c4]; exact d3) f1
  rw [if_neg c4]
  by_cases c5 : w = 5
  · rw [if_pos c5]
    exact H _ F1 (by unfold sCount; rw [if_neg c0, if_neg c1, if_neg c2, if_neg c3, if_neg c4, if_pos c5]; exact d6) f1
  rw [if_neg c5]
  by_cases c6 : w = 6
  · rw [if_pos c6]
    exact H _ F1 (by unfold sCount; rw [if_neg c0, if_neg c1, if_neg c2, if_neg c3, if_neg c4, if_neg c5, if_pos c6]; exact d7) f1
  rw [if_neg c6]
  by_cases c7 : w = 7
  · rw [if_pos c7]
    have es : sCount r np w = if yM r (yn r) = 0 then -4 else (yhs (ysh r) (yM r (yn r)).toNat).2.2.2 := by unfold sCount; rw [if_neg c0, if_neg c1, if_neg c2, if_neg c3, if_neg c4, if_neg c5, if_neg c6, if_pos c7]
    rw [d4]
    refine ⟨by omega, ?_⟩
    split
    · rename_i c8
      exact H _ F1 (by rw [es, if_pos c8]) f1
    · rename_i c8
      exact H _ F1 (by rw [es, if_neg c8]; exact d8) f1
  rw [if_neg c7]
  by_cases c8 : w = 8
  · rw [if_pos c8]
    exact H _ F1 (by unfold sCount; rw [if_neg c0, if_neg c1, if_neg c2, if_neg c3, if_neg c4, if_neg c5, if_neg c6, if_neg c7, if_pos c8]; exact t1.wi1) f1
  rw [if_neg c8]
  by_cases c9 : w = 9
  · rw [if_pos c9]
    exact H _ F1 (by unfold sCount; rw [if_neg c0, if_neg c1, if_neg c2, if_neg c3, if_neg c4, if_neg c5, if_neg c6, if_neg c7, if_neg c8, if_pos c9]; exact t1.w1) f1
  rw [if_neg c9]
  by_cases c10 : w = 10
  · rw [if_pos c10]
    exact H _ F1 (by unfold sCount; rw [if_neg c0, if_neg c1, if_neg c2, if_neg c3, if_neg c4, if_neg c5, if_neg c6, if_neg c7, if_neg c8, if_neg c9, if_pos c10, f1 37 (by omega)]; exact ep) f1
  · rw [if_neg c10]
    exact H _ F1 (by unfold sCount; rw [if_neg c0, if_neg c1, if_neg c2, if_neg c3, if_neg c4, if_neg c5, if_neg c6, if_neg c7, if_neg c8, if_neg c9, if_neg c10]) f1
theorem L93 (hh : RfH h) {n s i : Nat} (hn : n ≤ 12) (hs : s < 4) (hi : i + n ≤ 24) {l : Int} (hl : 0 ≤ l ∧ l ≤ 3) (e6 : F 1 6 = (n : Int)) (el : F (289 + 2 * s) 1 = l) {f : Nat → Int} (ef : ∀ k, k < n → F 276 k = f k) (hf : ∀ k, k < n → R32 (f k)) (H : ∀ G' : Nat → Nat → Int, (∀ x, G' (290 + 2 * s) x = if i ≤ x ∧ x < i + n then sCut l (f (x - i)) else G (290 + 2 * s) x) → (∀ p, p ≠ 290 + 2 * s → G' p = G p) → Q (some (vi (n : Int))) (Wd S L F G' h)) :
    ∀ (m k : Nat) (G1 : Nat → Nat → Int), k + m = n → (∀ x, G1 (290 + 2 * s) x = if i ≤ x ∧ x < i + k then sCut l (f (x - i)) else G (290 + 2 * s) x) → (∀ p, p ≠ 290 + 2 * s → G1 p = G p) → C93_53 (s : Int) (i : Int) (k : Int) (Wd S L F G1 h) Q
  | 0, k, G1, e, h1, h2 => by
    have : k = n := by omega
    subst this
    refine T93_53 hh ⟨by omega, by omega, ?_⟩
    rw [if_pos (by omega), e6]
    exact H G1 h1 h2
  | m + 1, k, G1, e, h1, h2 => by
    have sp : YSP (289 + 2 * s) := ⟨s, hs, rfl⟩
    have es : ((s : Nat) : Int).toNat = s := by omega
    have ek : ((k : Nat) : Int).toNat = k := by omega
    have eik : ((i : Int) + (k : Int)).toNat = i + k := by omega
    have hfk := hf k (by omega)
    refine T93_53 hh ⟨by omega, by omega, ?_⟩
    rw [if_neg (by omega), es, ek, ef k (by omega)]
    refine ⟨by omega, by omega, hfk, K21 hh sp (by omega) (by omega) ⟨_, rfl, rfl, ?_⟩⟩
    rw [eik, el, show 289 + 2 * s + 1 = 290 + 2 * s by omega]
    refine L93 hh hn hs hi hl e6 el ef hf H m (k + 1) _ (by omega) (fun x => ?_) (fun p hp => by rw [up_out hp, h2 p hp])
    rw [up_at]
    by_cases q : x = i + k
    · rw [if_pos q, if_pos (by omega), q, show i + k - i = k by omega]
    · rw [if_neg q, h1 x]
      by_cases q2 : i ≤ x ∧ x < i + k
      · rw [if_pos q2, if_pos (by omega)]
      · rw [if_neg q2, if_neg (by omega)]
end SEEN
