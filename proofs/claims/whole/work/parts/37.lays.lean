/-! the reference's frames -/
section LAYS
variable {S L : Nat} {F G : Nat → Nat → Int} {h : Nat → Nat → Option Nat} {Q : Option V2 → W2 → Prop}
theorem K120r (hh : RfH h) {r : Row} (er : F 298 = r) (v : Yvd r) {i : Int} (hi : 0 ≤ i ∧ i ≤ 12) (H : Q (some (vi (yM r i.toNat))) (Wd S L F G h)) : C120_0 i (Wd S L F G h) Q := by
  subst er
  exact K120 hh v hi H
def Ylay (F : Nat → Nat → Int) (r : Row) : Prop := ∀ i, i < yn r → F 307 i = yfr' r i ∧ F 308 i = yln r i ∧ F 309 i = ylo r i
theorem L121b (hh : RfH h) {r : Row} (er : F 298 = r) (v : Yvd r) (H : ∀ F' : Nat → Nat → Int, Ylay F' r → (∀ p, p ≠ 307 → p ≠ 308 → p ≠ 309 → F' p = F p) → Q none (Wd S L F' G h)) :
    ∀ (m k : Nat) (F1 : Nat → Nat → Int), k + m = yn r → (∀ j, j < yn r → F1 307 j = fk r (yn r) k j ∧ F1 308 j = (if j < k then yln r j else 0) ∧ F1 309 j = (if j < k then ylo r j else 0)) → (∀ p, p ≠ 307 → p ≠ 308 → p ≠ 309 → F1 p = F p) → C121_55 (yn r : Int) (k : Int) (Wd S L F1 G h) Q
  | 0, k, F1, e, h1, h2 => by
    have hy := yn_le v
    have : k = yn r := by omega
    subst this
    refine T121_55 hh ⟨by omega, by omega, ?_⟩
    rw [if_pos (by omega)]
    refine H F1 (fun i hi => ?_) h2
    have := h1 i hi
    rw [if_pos hi, if_pos hi] at this
    exact this
  | m + 1, k, F1, e, h1, h2 => by
    have hy := yn_le v
    have e8 : F1 298 = r := by rw [h2 298 (by decide) (by decide) (by decide)]; exact er
    have ek : ((k : Nat) : Int).toNat = k := by omega
    have ek1 : ((k : Int) + 1).toNat = k + 1 := by omega
    have ekm : ((k : Int) - 1).toNat = k - 1 := by omega
    have g1 : (46 + (k : Int)).toNat = 46 + k := by omega
    have hs := v.sg k (by omega)
    have g2 : (22 + r (46 + k)).toNat = 22 + (r (46 + k)).toNat := by omega
    have hv := vshp_bd v (i := k) (by omega)
    have ev : r (22 + (r (46 + k)).toNat) = vshp r k := rfl
    have g3 : (6 + vshp r k).toNat = 6 + (vshp r k).toNat := by omega
    have ho := v.op (vshp r k).toNat (by omega)
    have ef : F1 307 k = fk r (yn r) k k := (h1 k (by omega)).1
    have hf := fk_bd v (k := k) (i := k) (by omega) (by omega)
    -- what is to be shown of each way
    have next : ∀ F2 : Nat → Nat → Int, (∀ j, j < yn r → F2 307 j = fk r (yn r) (k + 1) j) → (∀ j, F2 308 j = if j = k then yln r k else F1 308 j) → (∀ j, F2 309 j = if j = k then ylo r k else F1 309 j) → (∀ p, p ≠ 307 → p ≠ 308 → p ≠ 309 → F2 p = F1 p) → C121_55 (yn r : Int) ((k : Int) + 1) (Wd S L F2 G h) Q := fun F2 a1 a2 a3 a4 => by
      refine L121b hh er v H m (k + 1) F2 (by omega) (fun j hj => ⟨a1 j hj, ?_, ?_⟩) (fun p q1 q2 q3 => by rw [a4 p q1 q2 q3, h2 p q1 q2 q3])
      · rw [a2]
        by_cases q : j = k
        · rw [if_pos q, if_pos (by omega), q]
        · rw [if_neg q, (h1 j hj).2.1]
          by_cases q2 : j < k
          · rw [if_pos q2, if_pos (by omega)]
          · rw [if_neg q2, if_neg (by omega)]
      · rw [a3]
        by_cases q : j = k
        · rw [if_pos q, if_pos (by omega), q]
        · rw [if_neg q, (h1 j hj).2.2]
          by_cases q2 : j < k
          · rw [if_pos q2, if_pos (by omega)]
          · rw [if_neg q2, if_neg (by omega)]
    have skip : ¬ (r (6 + (vshp r k).toNat) = 0 ∧ fk r (yn r) k k = 0) → C121_55 (yn r : Int) ((k : Int) + 1) (Wd S L F1 G h) Q := fun need => by
      have e1 : yln r k = 0 := by unfold yln ldL; rw [if_neg need]
      have e2 : ylo r k = 0 := by unfold ylo ldX; rw [if_neg need]
      have e3 : fk r (yn r) (k + 1) = fk r (yn r) k := by show ldF _ _ _ _ = _; unfold ldF; rw [if_neg need]
      have hk := h1 k (by omega)
      rw [if_neg (by omega), if_neg (by omega)] at hk
      refine next F1 (fun j hj => by rw [e3]; exact (h1 j hj).1) (fun j => ?_) (fun j => ?_) (fun p q1 q2 q3 => rfl)
      · by_cases q : j = k
        · rw [if_pos q, e1, q]; exact hk.2.1
        · rw [if_neg q]
      · by_cases q : j = k
        · rw [if_pos q, e2, q]; exact hk.2.2
        · rw [if_neg q]
    refine T121_55 hh ⟨by omega, by omega, ?_⟩
    rw [if_neg (by omega), e8, g1, g2, ev, g3]
    refine ⟨by omega, by omega, by omega, by omega, ?_⟩
    split
    · rename_i c1
      rw [ek, ef]
      refine ⟨by omega, by omega, ?_⟩
      split
      · rename_i c2
        have need : r (6 + (vshp r k).toNat) = 0 ∧ fk r (yn r) k k = 0 := ⟨c1, c2⟩
        -- none lends
        have none' : ¬ (0 < k ∧ 2 ≤ fk r (yn r) k (k - 1)) → ¬ (k + 1 < yn r ∧ 2 ≤ fk r (yn r) k (k + 1)) → C121_55 (yn r : Int) ((k : Int) + 1) (Wd S L (am_up (am_up (am_up F1 308 k 0) 309 k 1) 307 k 0) G h) Q := fun cA cB => by
          have e1 : yln r k = 0 := by unfold yln ldL; rw [if_pos need, if_neg cA, if_neg cB]
          have e2 : ylo r k = 1 := by unfold ylo ldX; rw [if_pos need, if_neg cA, if_neg cB]
          have e3 : fk r (yn r) (k + 1) = fk r (yn r) k := by show ldF _ _ _ _ = _; unfold ldF; rw [if_pos need, if_neg cA, if_neg cB]
          refine next _ (fun j hj => ?_) (fun j => ?_) (fun j => ?_) (fun p q1 q2 q3 => ?_)
          · rw [up_at, up_out (by decide), up_out (by decide), e3]
            by_cases q : j = k
            · rw [if_pos q, q]; exact c2.symm
            · rw [if_neg q]; exact (h1 j hj).1
          · rw [up_out (by decide), up_out (by decide), up_at, e1]
          · rw [up_out (by decide), up_at, up_out (by decide), e2]
          · rw [up_out q1, up_out q3, up_out q2]
        have behind : ¬ (0 < k ∧ 2 ≤ fk r (yn r) k (k - 1)) → (k + 1 < yn r ∧ 2 ≤ fk r (yn r) k (k + 1)) → C121_55 (yn r : Int) ((k : Int) + 1) (Wd S L (am_up (am_up (am_up (am_up F1 307 (k + 1) (F1 307 (k + 1) - 1)) 308 k 2) 309 k 0) 307 k 1) G h) Q := fun cA cB => by
          have e1 : yln r k = 2 := by unfold yln ldL; rw [if_pos need, if_neg cA, if_pos cB]
          have e2 : ylo r k = 0 := by unfold ylo ldX; rw [if_pos need, if_neg cA, if_pos cB]
          have e3 : fk r (yn r) (k + 1) = yu1 (yu1 (fk r (yn r) k) (k + 1) (fk r (yn r) k (k + 1) - 1)) k 1 := by show ldF _ _ _ _ = _; unfold ldF; rw [if_pos need, if_neg cA, if_pos cB]
          refine next _ (fun j hj => ?_) (fun j => ?_) (fun j => ?_) (fun p q1 q2 q3 => ?_)
          · rw [up_at, up_out (by decide), up_out (by decide), up_at, e3, (h1 (k + 1) cB.1).1, (h1 j hj).1]
            rfl
          · rw [up_out (by decide), up_out (by decide), up_at, up_out (by decide), e1]
          · rw [up_out (by decide), up_at, up_out (by decide), up_out (by decide), e2]
          · rw [up_out q1, up_out q3, up_out q2, up_out q1]
        have ahead : (0 < k ∧ 2 ≤ fk r (yn r) k (k - 1)) → C121_55 (yn r : Int) ((k : Int) + 1) (Wd S L (am_up (am_up (am_up (am_up F1 307 (k - 1) (F1 307 (k - 1) - 1)) 308 k 1) 309 k 0) 307 k 1) G h) Q := fun cA => by
          have e1 : yln r k = 1 := by unfold yln ldL; rw [if_pos need, if_pos cA]
          have e2 : ylo r k = 0 := by unfold ylo ldX; rw [if_pos need, if_pos cA]
          have e3 : fk r (yn r) (k + 1) = yu1 (yu1 (fk r (yn r) k) (k - 1) (fk r (yn r) k (k - 1) - 1)) k 1 := by show ldF _ _ _ _ = _; unfold ldF; rw [if_pos need, if_pos cA]
          refine next _ (fun j hj => ?_) (fun j => ?_) (fun j => ?_) (fun p q1 q2 q3 => ?_)
          · rw [up_at, up_out (by decide), up_out (by decide), up_at, e3, (h1 (k - 1) (by omega)).1, (h1 j hj).1]
            rfl
          · rw [up_out (by decide), up_out (by decide), up_at, up_out (by decide), e1]
          · rw [up_out (by decide), up_at, up_out (by decide), up_out (by decide), e2]
          · rw [up_out q1, up_out q3, up_out q2, up_out q1]
        rw [ek1, ekm]
        split
        · rename_i c3
          refine ⟨by omega, ?_⟩
          split
          · exact none' (by omega) (by omega)
          · have hb := fk_bd v (k := k) (i := k + 1) (by omega) (by omega)
            have eb := (h1 (k + 1) (by omega)).1
            refine ⟨by omega, by omega, ?_⟩
            split
            · exact none' (by omega) (by omega)
            · exact behind (by omega) (by omega)
        · rename_i c3
          have ha := fk_bd v (k := k) (i := k - 1) (by omega) (by omega)
          have ea := (h1 (k - 1) (by omega)).1
          refine ⟨by omega, by omega, ?_⟩
          split
          · refine ⟨by omega, ?_⟩
            split
            · exact none' (by omega) (by omega)
            · have hb := fk_bd v (k := k) (i := k + 1) (by omega) (by omega)
              have eb := (h1 (k + 1) (by omega)).1
              refine ⟨by omega, by omega, ?_⟩
              split
              · exact none' (by omega) (by omega)
              · exact behind (by omega) (by omega)
          · exact ahead (by omega)
      · rename_i c2
        exact skip (fun x => c2 x.2)
    · rename_i c1
      exact skip (fun x => c1 x.1)
theorem L121a (hh : RfH h) {r : Row} (er : F 298 = r) (v : Yvd r) (H : ∀ F' : Nat → Nat → Int, Ylay F' r → (∀ p, p ≠ 307 → p ≠ 308 → p ≠ 309 → F' p = F p) → Q none (Wd S L F' G h)) :
    ∀ (m k : Nat) (F1 : Nat → Nat → Int), k + m = yn r → (∀ j, j < k → F1 307 j = fk r (yn r) 0 j ∧ F1 308 j = 0 ∧ F1 309 j = 0) → (∀ p, p ≠ 307 → p ≠ 308 → p ≠ 309 → F1 p = F p) → C121_9 (yn r : Int) (k : Int) (Wd S L F1 G h) Q
  | 0, k, F1, e, h1, h2 => by
    have hy := yn_le v
    have e8 : F1 298 = r := by rw [h2 298 (by decide) (by decide) (by decide)]; exact er
    refine T121_9 hh ⟨by omega, by omega, ?_⟩
    rw [if_pos (by omega)]
    refine L121b (F := F1) hh e8 v (fun F' a1 a2 => H F' a1 (fun p q1 q2 q3 => by rw [a2 p q1 q2 q3, h2 p q1 q2 q3])) (yn r) 0 F1 (by omega) (fun j hj => ?_) (fun p q1 q2 q3 => rfl)
    rw [if_neg (by omega), if_neg (by omega)]
    exact h1 j (by omega)
  | m + 1, k, F1, e, h1, h2 => by
    have hy := yn_le v
    have e8 : F1 298 = r := by rw [h2 298 (by decide) (by decide) (by decide)]; exact er
    have ek : ((k : Nat) : Int).toNat = k := by omega
    have ek1 : ((k : Int) + 1).toNat = k + 1 := by omega
    refine T121_9 hh ⟨by omega, by omega, ?_⟩
    rw [if_neg (by omega)]
    refine K120r hh e8 v (by omega) ⟨_, rfl, rfl, K120r hh e8 v (by omega) ⟨_, rfl, rfl, by omega, ?_⟩⟩
    rw [ek, ek1]
    refine L121a hh er v H m (k + 1) _ (by omega) (fun j hj => ?_) (fun p q1 q2 q3 => by rw [up_out q3, up_out q2, up_out q1, h2 p q1 q2 q3])
    rw [up_out (by decide), up_out (by decide), up_at, up_out (by decide), up_at, up_out (by decide), up_at, up_out (by decide), up_out (by decide)]
    by_cases q : j = k
    · rw [if_pos q, if_pos q, if_pos q, q]
      exact ⟨rfl, rfl, rfl⟩
    · rw [if_neg q, if_neg q, if_neg q]
      exact h1 j (by omega)
theorem K121 (hh : RfH h) {r : Row} (er : F 298 = r) (v : Yvd r) (H : ∀ F' : Nat → Nat → Int, Ylay F' r → (∀ p, p ≠ 307 → p ≠ 308 → p ≠ 309 → F' p = F p) → Q none (Wd S L F' G h)) : C121_0 (Wd S L F G h) Q := by
  have hn := v.n
  refine T121_0 hh ?_
  rw [er, show r 0 = ((yn r : Nat) : Int) by unfold yn; omega]
  exact L121a hh er v H (yn r) 0 F (by omega) (fun j hj => absurd hj (Nat.not_lt_zero j)) (fun p q1 q2 q3 => rfl)
theorem L124 (hh : RfH h) {r : Row} (v : Yvd r) (ly : ∀ i, i < yn r → F 307 i = yfr' r i) {f : Nat} (hf : (f : Int) < yM r (yn r)) (H : Q (some (vi (ysA r f : Int))) (Wd S L F G h)) : ∀ (m i : Nat), i + m = ysA r f → C124_4 (i : Int) ((f : Int) - ysm (yfr' r) i) (Wd S L F G h) Q
  | 0, i, e => by
    obtain ⟨a1, a2, a3⟩ := ysA_is v hf
    have hy := yn_le v
    have hT := yM_n v
    have : i = ysA r f := by omega
    subst this
    have ei : ((ysA r f : Nat) : Int).toNat = ysA r f := by omega
    have hb := yfr_bd' v a1
    have h0 := yfr_mono v (a := 0) (b := ysA r f) (by omega) (by omega)
    have h00 : ysm (yfr' r) 0 = 0 := rfl
    have hs : ysm (yfr' r) (ysA r f + 1) = ysm (yfr' r) (ysA r f) + yfr' r (ysA r f) := rfl
    refine T124_4 hh ?_
    rw [ei, ly _ a1]
    refine ⟨by omega, by omega, by omega, ?_⟩
    rw [if_pos (by omega)]
    exact H
  | m + 1, i, e => by
    obtain ⟨a1, a2, a3⟩ := ysA_is v hf
    have hy := yn_le v
    have hT := yM_n v
    have ei : ((i : Nat) : Int).toNat = i := by omega
    have hb := yfr_bd' v (i := i) (by omega)
    have h0 := yfr_mono v (a := 0) (b := i) (by omega) (by omega)
    have h1 := yfr_mono v (a := i + 1) (b := ysA r f) (by omega) (by omega)
    have h00 : ysm (yfr' r) 0 = 0 := rfl
    have hs : ysm (yfr' r) (i + 1) = ysm (yfr' r) i + yfr' r i := rfl
    refine T124_4 hh ?_
    rw [ei, ly _ (by omega)]
    refine ⟨by omega, by omega, by omega, ?_⟩
    rw [if_neg (by omega)]
    have := L124 hh v ly hf H m (i + 1) (by omega)
    rw [hs] at this
    rw [show (f : Int) - ysm (yfr' r) i - yfr' r i = (f : Int) - (ysm (yfr' r) i + yfr' r i) by omega]
    exact this
theorem K124 (hh : RfH h) {r : Row} (v : Yvd r) (ly : ∀ i, i < yn r → F 307 i = yfr' r i) {f : Int} (hf : 0 ≤ f ∧ f < yM r (yn r)) (H : Q (some (vi (ysA r f.toNat : Int))) (Wd S L F G h)) : C124_0 f (Wd S L F G h) Q := by
  refine T124_0 hh ?_
  have := L124 (F := F) (G := G) (S := S) (L := L) hh v ly (f := f.toNat) (by omega) H (ysA r f.toNat) 0 (by omega)
  rw [show ((f.toNat : Nat) : Int) - ysm (yfr' r) 0 = f by
    show ((f.toNat : Nat) : Int) - 0 = f
    omega] at this
  exact this
theorem L123 (hh : RfH h) {f : Nat → Int} {n : Nat} (hn : n ≤ 12) (e : ∀ i, i < n → F 307 i = f i) (H : Q (some (vi (ysm f n))) (Wd S L F G h)) : ∀ (m k : Nat), k + m = n → C123_4 (n : Int) (ysm f k) (k : Int) (Wd S L F G h) Q
  | 0, k, hk => by
    refine T123_4 hh ⟨by omega, by omega, ?_⟩
    rw [if_pos (by omega)]
    have : k = n := by omega
    subst this
    exact H
  | m + 1, k, hk => by
    refine T123_4 hh ⟨by omega, by omega, ?_⟩
    rw [if_neg (by omega)]
    have ek : ((k : Nat) : Int).toNat = k := by omega
    rw [ek, e k (by omega)]
    exact ⟨by omega, L123 hh hn e H m (k + 1) (by omega)⟩
theorem K123 (hh : RfH h) {f : Nat → Int} {n : Nat} (hn : n ≤ 12) (e : ∀ i, i < n → F 307 i = f i) (H : Q (some (vi (ysm f n))) (Wd S L F G h)) : C123_0 (n : Int) (Wd S L F G h) Q :=
  T123_0 hh (L123 hh hn e H n 0 (by omega))
/-- holds in the reference's cells -/
def YmI (F F1 : Nat → Nat → Int) (q : Nat → Int) (k : Nat) : Prop := F1 297 15 = (yhs q k).1 ∧ F1 297 16 = (yhs q k).2.2.1 ∧ F1 297 17 = (if k = 0 then -4 else (yhs q k).2.2.2) ∧ (∀ j, j ≠ 15 → j ≠ 16 → j ≠ 17 → F1 297 j = F 297 j) ∧ (∀ p, p ≠ 297 → F1 p = F p)
theorem L128 (hh : RfH h) {r : Row} (er : F 298 = r) (v : Yvd r) (ly : ∀ i, i < yn r → F 307 i = yfr' r i) {T : Nat} (hT : yM r (yn r) = (T : Int)) (H : ∀ F' : Nat → Nat → Int, YmI F F' (ysh r) T → Q none (Wd S L F' G h)) :
    ∀ (m k : Nat) (F1 : Nat → Nat → Int), k + m = T → YmI F F1 (ysh r) k → C128_27 (if k = 0 then 0 else (k : Int) - (yhs (ysh r) k).2.1) (if k = 0 then -4 else ysh r (k - 1)) (k : Int) (Wd S L F1 G h) Q
  | 0, k, F1, e, I => by
    have hn := v.n
    have hTb := yM_n v
    have e8 : F1 298 = r := by rw [I.2.2.2.2 298 (by decide)]; exact er
    have : k = T := by omega
    subst this
    refine T128_27 hh ?_
    rw [e8]
    refine K120r hh e8 v hn ⟨_, rfl, rfl, ?_⟩
    have : yM r (r 0).toNat = (k : Int) := hT
    rw [this]
    refine ⟨by omega, by omega, ?_⟩
    rw [if_pos (by omega)]
    exact H F1 I
  | m + 1, k, F1, e, I => by
    obtain ⟨i1, i2, i3, i4, i5⟩ := id I
    have hn := v.n
    have hy := yn_le v
    have hTb := yM_n v
    have e8 : F1 298 = r := by rw [i5 298 (by decide)]; exact er
    have hb := yhs_bd (ysh r) k
    have ek : ((k : Nat) : Int).toNat = k := by omega
    have hA := ysA_is v (f := k) (by omega)
    have ih := L128 hh er v ly hT H m (k + 1)
    rw [if_neg (by omega), if_neg (by omega)] at ih
    have q0 := ysh_bd v (f := k) (by omega)
    have upd : ∀ (F2 : Nat → Nat → Int) (a b c d run : Int), yhs (ysh r) (k + 1) = (a, b, c, d) → run = (k : Int) + 1 - b → F2 297 15 = a → F2 297 16 = c → F2 297 17 = d → (∀ j, j ≠ 15 → j ≠ 16 → j ≠ 17 → F2 297 j = F1 297 j) → (∀ p, p ≠ 297 → F2 p = F1 p) → C128_27 run (ysh r k) ((k : Int) + 1) (Wd S L F2 G h) Q := fun F2 a b c d run hs hr h8 h9 h10 h11 h12 => by
      have := ih F2 (by omega) ⟨by rw [hs]; exact h8, by rw [hs]; exact h9, by rw [hs, if_neg (by omega)]; exact h10, fun j q1 q2 q3 => by rw [h11 j q1 q2 q3, i4 j q1 q2 q3], fun p hp => by rw [h12 p hp, i5 p hp]⟩
      rw [hs] at this
      rw [hr]
      exact this
    have eA : ((ysA r k : Nat) : Int).toNat = ysA r k := by omega
    have hs := v.sg (ysA r k) (by omega)
    have g1 : (46 + ((ysA r k : Nat) : Int)).toNat = 46 + ysA r k := by omega
    have g2 : (22 + r (46 + ysA r k)).toNat = 22 + (r (46 + ysA r k)).toNat := by omega
    have ev : r (22 + (r (46 + ysA r k)).toNat) = ysh r k := rfl
    refine T128_27 hh ?_
    rw [e8]
    refine K120r hh e8 v hn ⟨_, rfl, rfl, ?_⟩
    have : yM r (r 0).toNat = (T : Int) := hT
    rw [this]
    refine ⟨by omega, by omega, ?_⟩
    rw [if_neg (by omega)]
    refine K124 hh v (fun i hi => by rw [i5 307 (by decide)]; exact ly i hi) (f := (k : Int)) (by omega) ⟨_, rfl, rfl, ?_⟩
    rw [ek, g1, g2, ev]
    have hq1 : k ≠ 0 → 0 ≤ ysh r (k - 1) ∧ ysh r (k - 1) < 8 := fun hk => ysh_bd v (f := k - 1) (by omega)
    refine ⟨by omega, by omega, by omega, ?_, ?_⟩
    · by_cases k0 : k = 0
      · rw [if_pos k0]; decide
      · rw [if_neg k0]; have := hq1 k0; omega
    by_cases c : k = 0 ∨ ysh r k ≠ ysh r (k - 1)
    · -- a hold begins
      rw [if_neg (by
        by_cases k0 : k = 0
        · rw [if_pos k0]; omega
        · rw [if_neg k0]
          rcases c with c | c
          · exact absurd c k0
          · exact c)]
      rw [i2]
      refine ⟨by omega, ?_⟩
      split
      · rename_i c2
        refine upd _ _ _ _ _ _ (yhs_nl c (by omega)) (by omega) ?_ ?_ ?_ (fun j q1 q2 q3 => ?_) (fun p hp => ?_)
        · rw [up_at, if_pos rfl, i1]
        · rw [up_at, if_neg (by decide)]; exact i2
        · rw [up_at, if_neg (by decide), i3, if_neg]
          intro k0
          subst k0
          have : (yhs (ysh r) 0).2.2.1 = 0 := rfl
          omega
        · rw [up_at, if_neg q1]
        · rw [up_out hp]
      · rename_i c2
        refine upd _ _ _ _ _ _ (yhs_ng c (by omega)) (by omega) ?_ ?_ ?_ (fun j q1 q2 q3 => ?_) (fun p hp => ?_)
        · rw [up_at, if_neg (by decide), up_at, if_neg (by decide), up_at, if_pos rfl, i1]
        · rw [up_at, if_neg (by decide), up_at, if_pos rfl]; omega
        · rw [up_at, if_pos rfl]; omega
        · rw [up_at, if_neg q3, up_at, if_neg q2, up_at, if_neg q1]
        · rw [up_out hp, up_out hp, up_out hp]
    · have k0 : k ≠ 0 := by omega
      have c1 : ysh r k = ysh r (k - 1) := by omega
      rw [if_neg k0, if_neg k0, if_pos c1, i2]
      refine ⟨by omega, by omega, ?_⟩
      split
      · rename_i c2
        refine upd _ _ _ _ _ _ (yhs_ol c (by omega)) (by omega) ?_ ?_ ?_ (fun j q1 q2 q3 => ?_) (fun p hp => ?_)
        · rw [up_at, if_pos rfl, i1]; omega
        · rw [up_at, if_neg (by decide)]; exact i2
        · rw [up_at, if_neg (by decide), i3, if_neg k0]
        · rw [up_at, if_neg q1]
        · rw [up_out hp]
      · rename_i c2
        refine upd _ _ _ _ _ _ (yhs_og c (by omega)) (by omega) ?_ ?_ ?_ (fun j q1 q2 q3 => ?_) (fun p hp => ?_)
        · rw [up_at, if_neg (by decide), up_at, if_neg (by decide), up_at, if_pos rfl, i1]; omega
        · rw [up_at, if_neg (by decide), up_at, if_pos rfl]
        · rw [up_at, if_pos rfl]; omega
        · rw [up_at, if_neg q3, up_at, if_neg q2, up_at, if_neg q1]
        · rw [up_out hp, up_out hp, up_out hp]
theorem K128 (hh : RfH h) {r : Row} (er : F 298 = r) (v : Yvd r) (H : ∀ F' : Nat → Nat → Int, Ylay F' r → F' 297 15 = (yhs (ysh r) (yM r (yn r)).toNat).1 → F' 297 16 = (yhs (ysh r) (yM r (yn r)).toNat).2.2.1 → F' 297 17 = (if yM r (yn r) = 0 then -4 else (yhs (ysh r) (yM r (yn r)).toNat).2.2.2) → (∀ j, j ≠ 15 → j ≠ 16 → j ≠ 17 → F' 297 j = F 297 j) → (∀ p, p ≠ 297 → p ≠ 307 → p ≠ 308 → p ≠ 309 → F' p = F p) → Q none (Wd S L F' G h)) : C128_0 (Wd S L F G h) Q := by
  have hT := yM_n v
  refine T128_0 hh (K121 hh er v (fun F1 a1 a2 => ⟨_, rfl, rfl, ?_⟩))
  have e8 : F1 298 = r := by rw [a2 298 (by decide) (by decide) (by decide)]; exact er
  have ly : ∀ i, i < yn r → am_up (am_up (am_up F1 297 15 0) 297 16 0) 297 17 (-4) 307 i = yfr' r i := fun i hi => by rw [up_out (by decide), up_out (by decide), up_out (by decide)]; exact (a1 i hi).1
  have := L128 (F := am_up (am_up (am_up F1 297 15 0) 297 16 0) 297 17 (-4)) (G := G) (S := S) (L := L) (Q := Q) hh (r := r) (by rw [up_out (by decide), up_out (by decide), up_out (by decide)]; exact e8) v ly (T := (yM r (yn r)).toNat) (by omega) (fun F2 I => ?_) (yM r (yn r)).toNat 0 _ (by omega) ⟨by rw [up_at, if_neg (by decide), up_at, if_neg (by decide), up_at, if_pos rfl]; rfl, by rw [up_at, if_neg (by decide), up_at, if_pos rfl]; rfl, by rw [up_at, if_pos rfl]; rfl, fun j q1 q2 q3 => rfl, fun p hp => rfl⟩
  · exact this
  · obtain ⟨b1, b2, b3, b4, b5⟩ := I
    refine H F2 (fun i hi => ?_) b1 b2 ?_ (fun j q1 q2 q3 => ?_) (fun p q1 q2 q3 q4 => ?_)
    · rw [b5 307 (by decide), b5 308 (by decide), b5 309 (by decide), up_out (by decide), up_out (by decide), up_out (by decide), up_out (by decide), up_out (by decide), up_out (by decide), up_out (by decide), up_out (by decide), up_out (by decide)]
      exact a1 i hi
    · rw [b3]
      by_cases q : yM r (yn r) = 0
      · rw [if_pos q, if_pos (by omega)]
      · rw [if_neg q, if_neg (by omega)]
    · rw [b4 j q1 q2 q3, up_at, if_neg q3, up_at, if_neg q2, up_at, if_neg q1, a2 297 (by decide) (by decide) (by decide)]
    · rw [b5 p q1, up_out q1, up_out q1, up_out q1, a2 p q2 q3 q4]
theorem L129 (hh : RfH h) {r : Row} (er : F 298 = r) (v : Yvd r) (ly : Ylay F r) {x : Int} (hx : x = 0 ∨ x = 1) (H : Q (some (vi (if x = 0 then ysm (yzr r) (yn r) else ysm (ylo r) (yn r)))) (Wd S L F G h)) : ∀ (m k : Nat), k + m = yn r → C129_4 x (if x = 0 then ysm (yzr r) k else ysm (ylo r) k) (k : Int) (Wd S L F G h) Q
  | 0, k, hk => by
    have hn := v.n
    have hy := yn_le v
    have : k = yn r := by omega
    subst this
    refine T129_4 hh ?_
    rw [er]
    refine ⟨by omega, by omega, ?_⟩
    rw [if_pos (by unfold yn; omega)]
    exact H
  | m + 1, k, hk => by
    have hn := v.n
    have hy := yn_le v
    have ek : ((k : Nat) : Int).toNat = k := by omega
    obtain ⟨a1, a2, a3⟩ := ly k (by omega)
    have hb := yfr_bd' v (i := k) (by omega)
    have hlo := ylo_bd r k
    have hz := yfr_zero v (i := k) (by omega)
    have hlz := ylo_zero v (i := k) (by omega)
    have ih := L129 hh er v ly hx H m (k + 1) (by omega)
    have ez : ysm (yzr r) (k + 1) = ysm (yzr r) k + yzr r k := rfl
    have el : ysm (ylo r) (k + 1) = ysm (ylo r) k + ylo r k := rfl
    rw [ez, el] at ih
    refine T129_4 hh ?_
    rw [er, ek, a1, a3]
    refine ⟨by omega, by omega, ?_⟩
    rw [if_neg (by unfold yn at hk; omega)]
    refine ⟨by omega, by omega, ?_⟩
    by_cases c1 : yfr' r k = 0
    · rw [if_pos c1]
      have z1 : yzr r k = 1 := by unfold yzr; rw [if_pos (hz.mp c1)]
      rw [z1] at ih
      refine ⟨by omega, ?_⟩
      by_cases c2 : x = 0
      · rw [if_pos c2] at ih ⊢
        rw [if_pos c2]
        exact ih
      · rw [if_neg c2] at ih ⊢
        rw [if_neg c2]
        refine ⟨by omega, ?_⟩
        by_cases c3 : ylo r k = 0
        · rw [c3] at ih
          rw [if_pos c3]
          exact ih
        · rw [if_neg c3]
          rw [show ylo r k = 1 by omega] at ih
          exact ih
    · rw [if_neg c1]
      have z1 : yzr r k = 0 := by unfold yzr; rw [if_neg (fun x => c1 (hz.mpr x))]
      have z2 : ylo r k = 0 := by
        rcases hlo with q | q
        · exact q
        · exact absurd (hlz q) c1
      rw [z1, z2] at ih
      by_cases c2 : x = 0
      · rw [if_pos c2] at ih ⊢
        exact ih
      · rw [if_neg c2] at ih ⊢
        exact ih
theorem K129 (hh : RfH h) {r : Row} (er : F 298 = r) (v : Yvd r) (ly : Ylay F r) {x : Int} (hx : x = 0 ∨ x = 1) (H : Q (some (vi (if x = 0 then ysm (yzr r) (yn r) else ysm (ylo r) (yn r)))) (Wd S L F G h)) : C129_0 x (Wd S L F G h) Q := by
  refine T129_0 hh ?_
  have := L129 (F := F) (G := G) (S := S) (L := L) (Q := Q) hh er v ly hx H (yn r) 0 (by omega)
  have e : (if x = 0 then ysm (yzr r) 0 else ysm (ylo r) 0) = 0 := by split <;> rfl
  rw [e] at this
  exact this
end LAYS
