/-! contracts of the tells -/
section TELLS2
variable {S L : Nat} {F G : Nat → Nat → Int} {h : Nat → Nat → Option Nat} {Q : Option V2 → W2 → Prop}
theorem K32 (hh : RfH h) {r : Row} (t : Ytk F 1 r) (v : Yvd r) {a b : Int} (r1 : R32 a) (r2 : R32 b)
    (H : ∀ (x : Int) (r' : Row) (F' : Nat → Nat → Int), sSound r a b = (x, r') → Ytk F' 1 r' → (∀ p, p = 0 ∨ 19 ≤ p → F' p = F p) → Q (some (vi x)) (Wd S L F' G h)) : C32_0 a b (Wd S L F G h) Q := by
  have hn := v.n
  have htot := ytot_bd v
  have hlo := v.lo
  have hby := v.by
  refine T32_0 hh ⟨r1, ?_⟩
  split
  · exact H (-1) r F (by unfold sSound; rw [if_neg (by omega)]) t (fun p hp => rfl)
  split
  · exact H (-1) r F (by unfold sSound; rw [if_neg (by omega)]) t (fun p hp => rfl)
  refine ⟨r2, ?_⟩
  split
  · exact H (-1) r F (by unfold sSound; rw [if_neg (by omega)]) t (fun p hp => rfl)
  split
  · exact H (-1) r F (by unfold sSound; rw [if_neg (by omega)]) t (fun p hp => rfl)
  simp only [t.n1, t.lo1, t.by1]
  refine ⟨by omega, ?_⟩
  split
  · exact H (-3) r F (by unfold sSound; rw [if_pos (by omega), if_neg (by omega)]) t (fun p hp => rfl)
  refine K27 hh t hn ⟨_, rfl, rfl, ?_⟩
  refine K29 hh (by unfold ytot at htot; omega) hlo hby ⟨_, rfl, rfl, ?_⟩
  have hb := ymk_bd (t := ytot r + b) (a := r 2) (b := r 3) (by omega) hlo hby
  refine ⟨by unfold ytot at hb; omega, ?_⟩
  split
  · rename_i hc
    refine ⟨by omega, ?_⟩
    rw [show r 0 + 1 - 1 = r 0 by omega]
    refine H (r 0) (yu1 (yu1 (yu1 r (46 + (r 0).toNat) a) (58 + (r 0).toNat) b) 0 (r 0 + 1)) _ ?_ ?_ ?_
    · unfold sSound
      rw [if_pos (by omega), if_pos ⟨by omega, hc⟩]
    · refine Ytk.mk1 ⟨?_, ?_, ?_, ?_, ?_, ?_, ?_, ?_, ?_, ?_, ?_, ?_, ?_, ?_, ?_⟩
      · have := t.n1
        simp only [am_up, yu1, if_true]
        repeat' split
        all_goals omega
      · have := t.lo1
        simp only [am_up, yu1, if_true]
        repeat' split
        all_goals omega
      · have := t.by1
        simp only [am_up, yu1, if_true]
        repeat' split
        all_goals omega
      · have := t.wi1
        simp only [am_up, yu1, if_true]
        repeat' split
        all_goals omega
      · have := t.w1
        simp only [am_up, yu1, if_true]
        repeat' split
        all_goals omega
      · have := t.dr1
        simp only [am_up, yu1, if_true]
        repeat' split
        all_goals omega
      · intro k' hk'
        have := t.op1 k' hk'
        simp only [am_up, yu1, if_true]
        repeat' split
        all_goals omega
      · intro k' hk'
        have := t.wd1 k' hk'
        simp only [am_up, yu1, if_true]
        repeat' split
        all_goals omega
      · intro k' hk'
        have := t.sh1 k' hk'
        simp only [am_up, yu1, if_true]
        repeat' split
        all_goals omega
      · intro k' hk'
        have := t.pu1 k' hk'
        simp only [am_up, yu1, if_true]
        repeat' split
        all_goals omega
      · intro k' hk'
        have := t.sg1 k' hk'
        simp only [am_up, yu1, if_true]
        repeat' split
        all_goals omega
      · intro k' hk'
        have := t.tm1 k' hk'
        simp only [am_up, yu1, if_true]
        repeat' split
        all_goals omega
      · intro k' hk'
        have := t.wt1 k' hk'
        simp only [am_up, yu1, if_true]
        repeat' split
        all_goals omega
      · intro k' hk'
        have := t.sz1 k' hk'
        simp only [am_up, yu1, if_true]
        repeat' split
        all_goals omega
      · intro j hj k' hk' hl
        have := t.lt1 j hj k' hk' (by simp only [am_up, yu1, if_true] at hl; (repeat' split at hl) <;> first | exact hl | omega)
        simp only [am_up, yu1, if_true]
        repeat' split
        all_goals omega
    · intro p hp
      funext q
      simp only [am_up]
      rw [if_neg (by omega), if_neg (by omega), if_neg (by omega)]
  · rename_i hc
    refine H (-3) r F ?_ t (fun p hp => rfl)
    unfold sSound
    rw [if_pos (by omega), if_neg (fun e => hc e.2)]
theorem K34 (hh : RfH h) {r : Row} (t : Ytk F 1 r) (v : Yvd r) {a b : Int} (r1 : R32 a) (r2 : R32 b)
    (H : ∀ (x : Int) (r' : Row) (F' : Nat → Nat → Int), sFrame r a b = (x, r') → Ytk F' 1 r' → (∀ p, p = 0 ∨ 19 ≤ p → F' p = F p) → Q (some (vi x)) (Wd S L F' G h)) : C34_0 a b (Wd S L F G h) Q := by
  have hn := v.n
  have htot := ytot_bd v
  have hlo := v.lo
  have hby := v.by
  refine T34_0 hh ⟨r1, ?_⟩
  split
  · exact H (-1) r F (by unfold sFrame; rw [if_neg (by omega)]) t (fun p hp => rfl)
  split
  · exact H (-1) r F (by unfold sFrame; rw [if_neg (by omega)]) t (fun p hp => rfl)
  refine ⟨r2, ?_⟩
  split
  · exact H (-1) r F (by unfold sFrame; rw [if_neg (by omega)]) t (fun p hp => rfl)
  split
  · exact H (-1) r F (by unfold sFrame; rw [if_neg (by omega)]) t (fun p hp => rfl)
  have hgo : ¬ (r 2 = a ∧ r 3 = b) → C27_0 (r 0) (Wd S L F G h) (fun v w1 => ∃ (v15 : Int), v = some (vi v15) ∧ w1 = (Wd S L F G h) ∧ C29_0 v15 a b (Wd S L F G h) (fun v w1 => ∃ (v16 : Int), v = some (vi v16) ∧ w1 = (Wd S L F G h) ∧ (R32 v16 ∧ (if v16 ≤ 100 then Q (some (vi ((10 * (r 2)) + (r 3)))) (Wd S L (am_up (am_up F 1 7 a) 1 8 b) G h) else Q (some (vi (-3))) (Wd S L F G h))))) := fun hne => by
    refine K27 hh t hn ⟨_, rfl, rfl, ?_⟩
    refine K29 hh (by unfold ytot at htot; omega) (by omega) (by omega) ⟨_, rfl, rfl, ?_⟩
    have hb := ymk_bd (t := ytot r) (a := a) (b := b) (by omega) (by omega) (by omega)
    refine ⟨by unfold ytot at hb; omega, ?_⟩
    split
    · rename_i hc
      refine H _ (yu1 (yu1 r 2 a) 3 b) _ ?_ ?_ ?_
      · unfold sFrame
        rw [if_pos (by omega), if_neg hne, if_pos (show ymk (ytot r) a b ≤ 100 from hc)]
      · refine Ytk.mk1 ⟨?_, ?_, ?_, ?_, ?_, ?_, ?_, ?_, ?_, ?_, ?_, ?_, ?_, ?_, ?_⟩
        · have := t.n1
          simp only [am_up, yu1, if_true]
          repeat' split
          all_goals omega
        · have := t.lo1
          simp only [am_up, yu1, if_true]
          repeat' split
          all_goals omega
        · have := t.by1
          simp only [am_up, yu1, if_true]
          repeat' split
          all_goals omega
        · have := t.wi1
          simp only [am_up, yu1, if_true]
          repeat' split
          all_goals omega
        · have := t.w1
          simp only [am_up, yu1, if_true]
          repeat' split
          all_goals omega
        · have := t.dr1
          simp only [am_up, yu1, if_true]
          repeat' split
          all_goals omega
        · intro k' hk'
          have := t.op1 k' hk'
          simp only [am_up, yu1, if_true]
          repeat' split
          all_goals omega
        · intro k' hk'
          have := t.wd1 k' hk'
          simp only [am_up, yu1, if_true]
          repeat' split
          all_goals omega
        · intro k' hk'
          have := t.sh1 k' hk'
          simp only [am_up, yu1, if_true]
          repeat' split
          all_goals omega
        · intro k' hk'
          have := t.pu1 k' hk'
          simp only [am_up, yu1, if_true]
          repeat' split
          all_goals omega
        · intro k' hk'
          have := t.sg1 k' hk'
          simp only [am_up, yu1, if_true]
          repeat' split
          all_goals omega
        · intro k' hk'
          have := t.tm1 k' hk'
          simp only [am_up, yu1, if_true]
          repeat' split
          all_goals omega
        · intro k' hk'
          have := t.wt1 k' hk'
          simp only [am_up, yu1, if_true]
          repeat' split
          all_goals omega
        · intro k' hk'
          have := t.sz1 k' hk'
          simp only [am_up, yu1, if_true]
          repeat' split
          all_goals omega
        · intro j hj k' hk' hl
          have := t.lt1 j hj k' hk' (by simp only [am_up, yu1, if_true] at hl; (repeat' split at hl) <;> first | exact hl | omega)
          simp only [am_up, yu1, if_true]
          repeat' split
          all_goals omega
      · intro p hp
        funext q
        simp only [am_up]
        rw [if_neg (by omega), if_neg (by omega)]
    · rename_i hc
      refine H (-3) r F ?_ t (fun p hp => rfl)
      unfold sFrame
      rw [if_pos (by omega), if_neg hne, if_neg (show ¬ ymk (ytot r) a b ≤ 100 from hc)]
  simp only [t.n1, t.lo1, t.by1]
  refine ⟨by omega, ?_⟩
  split
  · refine ⟨by omega, ?_⟩
    split
    · exact H (-2) r F (by unfold sFrame; rw [if_pos (by omega), if_pos (by omega)]) t (fun p hp => rfl)
    · exact hgo (by omega)
  · exact hgo (by omega)
theorem K35 (hh : RfH h) {r : Row} (t : Ytk F 1 r) (v : Yvd r) {a : Int} (r1 : R32 a)
    (H : ∀ (x : Int) (r' : Row) (F' : Nat → Nat → Int), sWindow r a = (x, r') → Ytk F' 1 r' → (∀ p, p = 0 ∨ 19 ≤ p → F' p = F p) → Q (some (vi x)) (Wd S L F' G h)) : C35_0 a (Wd S L F G h) Q := by
  have hwi := v.wi
  refine T35_0 hh ⟨r1, ?_⟩
  split
  · exact H (-1) r F (by unfold sWindow; rw [if_neg (by omega)]) t (fun p hp => rfl)
  split
  · exact H (-1) r F (by unfold sWindow; rw [if_neg (by omega)]) t (fun p hp => rfl)
  simp only [t.wi1]
  refine ⟨by omega, ?_⟩
  split
  · exact H (-2) r F (by unfold sWindow; rw [if_pos (by omega), if_pos (by omega)]) t (fun p hp => rfl)
  · rename_i hne
    refine H _ (yu1 r 4 a) _ ?_ ?_ ?_
    · unfold sWindow
      rw [if_pos (by omega), if_neg hne]
    · refine Ytk.mk1 ⟨?_, ?_, ?_, ?_, ?_, ?_, ?_, ?_, ?_, ?_, ?_, ?_, ?_, ?_, ?_⟩
      · have := t.n1
        simp only [am_up, yu1, if_true]
        repeat' split
        all_goals omega
      · have := t.lo1
        simp only [am_up, yu1, if_true]
        repeat' split
        all_goals omega
      · have := t.by1
        simp only [am_up, yu1, if_true]
        repeat' split
        all_goals omega
      · have := t.wi1
        simp only [am_up, yu1, if_true]
        repeat' split
        all_goals omega
      · have := t.w1
        simp only [am_up, yu1, if_true]
        repeat' split
        all_goals omega
      · have := t.dr1
        simp only [am_up, yu1, if_true]
        repeat' split
        all_goals omega
      · intro k' hk'
        have := t.op1 k' hk'
        simp only [am_up, yu1, if_true]
        repeat' split
        all_goals omega
      · intro k' hk'
        have := t.wd1 k' hk'
        simp only [am_up, yu1, if_true]
        repeat' split
        all_goals omega
      · intro k' hk'
        have := t.sh1 k' hk'
        simp only [am_up, yu1, if_true]
        repeat' split
        all_goals omega
      · intro k' hk'
        have := t.pu1 k' hk'
        simp only [am_up, yu1, if_true]
        repeat' split
        all_goals omega
      · intro k' hk'
        have := t.sg1 k' hk'
        simp only [am_up, yu1, if_true]
        repeat' split
        all_goals omega
      · intro k' hk'
        have := t.tm1 k' hk'
        simp only [am_up, yu1, if_true]
        repeat' split
        all_goals omega
      · intro k' hk'
        have := t.wt1 k' hk'
        simp only [am_up, yu1, if_true]
        repeat' split
        all_goals omega
      · intro k' hk'
        have := t.sz1 k' hk'
        simp only [am_up, yu1, if_true]
        repeat' split
        all_goals omega
      · intro j hj k' hk' hl
        have := t.lt1 j hj k' hk' (by simp only [am_up, yu1, if_true] at hl; (repeat' split at hl) <;> first | exact hl | omega)
        simp only [am_up, yu1, if_true]
        repeat' split
        all_goals omega
    · intro p hp
      funext q
      simp only [am_up]
      rw [if_neg (by omega)]
def rOutK (r : Row) (i k : Nat) : Row := fun j => if j = 0 then r 0 - 1 else if (46 + i ≤ j ∧ j < 46 + k) ∨ (58 + i ≤ j ∧ j < 58 + k) then r (j + 1) else r j
theorem rOutK_end {r : Row} (v : Yvd r) {i : Nat} (hi : (i : Int) < r 0) : rOutK r i ((r 0).toNat - 1) = rOut r i := by
  have hn := v.n
  funext j
  unfold rOutK rOut
  by_cases q : j = 0
  · rw [if_pos q, if_pos q]
  · rw [if_neg q, if_neg q]
    have e : ((46 + i ≤ j ∧ j < 46 + ((r 0).toNat - 1)) ∨ (58 + i ≤ j ∧ j < 58 + ((r 0).toNat - 1))) ↔ ((46 + i ≤ j ∧ j < 45 + (r 0).toNat) ∨ (58 + i ≤ j ∧ j < 57 + (r 0).toNat)) := by omega
    by_cases q2 : (46 + i ≤ j ∧ j < 45 + (r 0).toNat) ∨ (58 + i ≤ j ∧ j < 57 + (r 0).toNat)
    · rw [if_pos (e.mpr q2), if_pos q2]
    · rw [if_neg (fun x => q2 (e.mp x)), if_neg q2]
theorem rOutK_step {r : Row} {i k j : Nat} (hik : i ≤ k) (hk : k < 11) (hj : j ≠ 0) : rOutK r i (k + 1) j = if j = 46 + k then r (46 + (k + 1)) else if j = 58 + k then r (58 + (k + 1)) else rOutK r i k j := by
  unfold rOutK
  rw [if_neg hj, if_neg hj]
  by_cases q1 : j = 46 + k
  · subst q1
    rw [if_pos rfl, if_pos (by omega)]
    rfl
  · rw [if_neg q1]
    by_cases q2 : j = 58 + k
    · subst q2
      rw [if_pos rfl, if_pos (by omega)]
      rfl
    · rw [if_neg q2]
      by_cases q3 : (46 + i ≤ j ∧ j < 46 + k) ∨ (58 + i ≤ j ∧ j < 58 + k)
      · rw [if_pos q3, if_pos (by omega)]
      · rw [if_neg q3, if_neg (by omega)]
theorem rOutK_hi {r : Row} {i k : Nat} (hk : k < 11) : rOutK r i k (46 + (k + 1)) = r (46 + (k + 1)) ∧ rOutK r i k (58 + (k + 1)) = r (58 + (k + 1)) := by
  unfold rOutK
  rw [if_neg (by omega), if_neg (by omega), if_neg (by omega), if_neg (by omega)]
  exact ⟨rfl, rfl⟩
theorem L33 (hh : RfH h) {r : Row} (v : Yvd r) {i : Nat} (hi : (i : Int) < r 0) (H : ∀ F', Ytk F' 1 (rOutK r i ((r 0).toNat - 1)) → (∀ p, p = 0 ∨ 19 ≤ p → F' p = F p) → Q (some (vi (r 0 - 1))) (Wd S L F' G h)) : ∀ (m k : Nat) (F1 : Nat → Nat → Int), k + m = (r 0).toNat - 1 → i ≤ k → Ytk F1 1 (rOutK r i k) → (∀ p, p = 0 ∨ 19 ≤ p → F1 p = F p) → C33_28 (k : Int) (Wd S L F1 G h) Q
  | 0, k, F1, e, hik, t, hf => by
    have hn := v.n
    have e6 : F1 1 6 = r 0 - 1 := t.n1
    refine T33_28 hh ?_
    simp only [e6]
    refine ⟨by omega, by omega, ?_⟩
    rw [if_pos (by omega)]
    have : k = (r 0).toNat - 1 := by omega
    subst this
    exact H F1 t hf
  | m + 1, k, F1, e, hik, t, hf => by
    have hn := v.n
    have e6 : F1 1 6 = r 0 - 1 := t.n1
    refine T33_28 hh ?_
    simp only [e6]
    refine ⟨by omega, by omega, ?_⟩
    rw [if_neg (by omega)]
    refine ⟨by omega, by omega, ?_⟩
    have ek : ((k : Int) + 1).toNat = k + 1 := by omega
    have h1 : F1 6 (k + 1) = r (46 + (k + 1)) := by rw [t.sg1 (k + 1) (by omega)]; exact (rOutK_hi (by omega)).1
    have h2 : F1 7 (k + 1) = r (58 + (k + 1)) := by rw [t.tm1 (k + 1) (by omega)]; exact (rOutK_hi (by omega)).2
    rw [ek, h1, h2]
    refine L33 hh v hi H m (k + 1) _ (by omega) (by omega) ?_ ?_
    · refine Ytk.mk1 ⟨?_, ?_, ?_, ?_, ?_, ?_, ?_, ?_, ?_, ?_, ?_, ?_, ?_, ?_, ?_⟩
      · exact t.n1
      · rw [rOutK_step hik (by omega) (by omega)]
        have := t.lo1
        simp only [am_up]
        repeat' split
        all_goals omega
      · rw [rOutK_step hik (by omega) (by omega)]
        have := t.by1
        simp only [am_up]
        repeat' split
        all_goals omega
      · rw [rOutK_step hik (by omega) (by omega)]
        have := t.wi1
        simp only [am_up]
        repeat' split
        all_goals omega
      · rw [rOutK_step hik (by omega) (by omega)]
        have := t.w1
        simp only [am_up]
        repeat' split
        all_goals omega
      · rw [rOutK_step hik (by omega) (by omega)]
        have := t.dr1
        simp only [am_up]
        repeat' split
        all_goals omega
      · intro k' hk'
        rw [rOutK_step hik (by omega) (by omega)]
        have := t.op1 k' hk'
        simp only [am_up, if_true]
        repeat' split
        all_goals omega
      · intro k' hk'
        rw [rOutK_step hik (by omega) (by omega)]
        have := t.wd1 k' hk'
        simp only [am_up, if_true]
        repeat' split
        all_goals omega
      · intro k' hk'
        rw [rOutK_step hik (by omega) (by omega)]
        have := t.sh1 k' hk'
        simp only [am_up, if_true]
        repeat' split
        all_goals omega
      · intro k' hk'
        rw [rOutK_step hik (by omega) (by omega)]
        have := t.pu1 k' hk'
        simp only [am_up, if_true]
        repeat' split
        all_goals omega
      · intro k' hk'
        rw [rOutK_step hik (by omega) (by omega)]
        have := t.sg1 k' hk'
        simp only [am_up, if_true]
        repeat' split
        all_goals omega
      · intro k' hk'
        rw [rOutK_step hik (by omega) (by omega)]
        have := t.tm1 k' hk'
        simp only [am_up, if_true]
        repeat' split
        all_goals omega
      · intro k' hk'
        rw [rOutK_step hik (by omega) (by omega)]
        have := t.wt1 k' hk'
        simp only [am_up, if_true]
        repeat' split
        all_goals omega
      · intro k' hk'
        rw [rOutK_step hik (by omega) (by omega)]
        have := t.sz1 k' hk'
        simp only [am_up, if_true]
        repeat' split
        all_goals omega
      · intro j hj k' hk' hl
        rw [rOutK_step hik (by omega) (by omega), if_neg (by omega), if_neg (by omega)] at hl
        rw [rOutK_step hik (by omega) (by omega)]
        have := t.lt1 j hj k' hk' hl
        simp only [am_up, if_true]
        repeat' split
        all_goals omega
    · intro p hp
      rw [← hf p hp]
      funext q
      simp only [am_up]
      rw [if_neg (by omega), if_neg (by omega)]
theorem K33 (hh : RfH h) {r : Row} (t : Ytk F 1 r) (v : Yvd r) {a : Int} (r1 : R32 a)
    (H : ∀ (x : Int) (r' : Row) (F' : Nat → Nat → Int), sOut r a = (x, r') → Ytk F' 1 r' → (∀ p, p = 0 ∨ 19 ≤ p → F' p = F p) → Q (some (vi x)) (Wd S L F' G h)) : C33_0 a (Wd S L F G h) Q := by
  have hn := v.n
  have e6 : F 1 6 = r 0 := t.n1
  refine T33_0 hh ⟨r1, ?_⟩
  simp only [e6]
  split
  · exact H (-1) r F (by unfold sOut; rw [if_neg (by omega)]) t (fun p hp => rfl)
  refine ⟨by omega, ?_⟩
  split
  · exact H (-1) r F (by unfold sOut; rw [if_neg (by omega)]) t (fun p hp => rfl)
  have ea : ((a.toNat : Nat) : Int) = a := by omega
  have := L33 (F := F) (G := G) (h := h) (S := S) (L := L) (Q := Q) hh v (i := a.toNat) (by omega) (fun F' t' hf => H (r 0 - 1) (rOut r a.toNat) F' (by unfold sOut; rw [if_pos (by omega)]) (by rw [← rOutK_end v (by omega)]; exact t') hf) ((r 0).toNat - 1 - a.toNat) a.toNat (am_up F 1 6 (r 0 - 1)) (by omega) (Nat.le_refl _) (by
    have e0 : ∀ j, j ≠ 0 → rOutK r a.toNat a.toNat j = r j := fun j hj => by
      unfold rOutK
      rw [if_neg hj, if_neg (by omega)]
    refine Ytk.mk1 ⟨rfl, by rw [e0 _ (by omega)]; exact t.lo1, by rw [e0 _ (by omega)]; exact t.by1, by rw [e0 _ (by omega)]; exact t.wi1, by rw [e0 _ (by omega)]; exact t.w1, by rw [e0 _ (by omega)]; exact t.dr1, fun k' hk' => by rw [e0 _ (by omega)]; exact t.op1 k' hk', fun k' hk' => by rw [e0 _ (by omega)]; exact t.wd1 k' hk', fun k' hk' => by rw [e0 _ (by omega)]; exact t.sh1 k' hk', fun k' hk' => by rw [e0 _ (by omega)]; exact t.pu1 k' hk', fun k' hk' => by rw [e0 _ (by omega)]; exact t.sg1 k' hk', fun k' hk' => by rw [e0 _ (by omega)]; exact t.tm1 k' hk', fun k' hk' => by rw [e0 _ (by omega)]; exact t.wt1 k' hk', fun k' hk' => by rw [e0 _ (by omega)]; exact t.sz1 k' hk', fun j hj k' hk' hl => ?_⟩
    rw [e0 _ (by omega)] at hl
    rw [e0 _ (by omega)]
    have := t.lt1 j hj k' hk' hl
    simp only [am_up]
    rw [if_neg (by omega)]
    exact this) (by
    intro p hp
    funext q
    simp only [am_up]
    rw [if_neg (by omega)])
  rw [ea] at this
  exact this
end TELLS2
