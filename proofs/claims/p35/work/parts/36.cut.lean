/-! the component's cut -/
def yzr (r : Row) (i : Nat) : Int := if fk r (yn r) (i + 1) i = 0 then 1 else 0
section CUT
variable {S L : Nat} {F G : Nat → Nat → Int} {h : Nat → Nat → Option Nat} {Q : Option V2 → W2 → Prop}
theorem L2c (hh : RfH h) {r : Row} (t : Ytk F 1 r) (v : Yvd r) (H : ∀ F' : Nat → Nat → Int, (∀ i, i < yn r → F' 276 i = fk r (yn r) 0 i) → (∀ p, p ≠ 276 → F' p = F p) → Q none (Wd S L F' G h)) :
    ∀ (m k : Nat) (F1 : Nat → Nat → Int), k + m = yn r → (∀ i, i < k → F1 276 i = fk r (yn r) 0 i) → (∀ p, p ≠ 276 → F1 p = F p) → C2_4 (ysm (fun k => r (58 + k)) k) (k : Int) (Wd S L F1 G h) Q
  | 0, k, F1, e, h1, h2 => by
    have hn := v.n
    have e6 : F1 1 6 = r 0 := by rw [h2 1 (by decide)]; exact t.n1
    unfold yn at e
    refine T2_4 hh ⟨by omega, by omega, ?_⟩
    rw [if_pos (by omega)]
    exact H F1 (fun i hi => h1 i (by unfold yn at hi; omega)) h2
  | m + 1, k, F1, e, h1, h2 => by
    have hn := v.n
    have hy := yn_le v
    have e6 : F1 1 6 = r 0 := by rw [h2 1 (by decide)]; exact t.n1
    have e7 : F1 1 7 = r 2 := by rw [h2 1 (by decide)]; exact t.lo1
    have e8 : F1 1 8 = r 3 := by rw [h2 1 (by decide)]; exact t.by1
    have et : F1 7 k = r (58 + k) := by rw [h2 7 (by decide)]; exact t.tm1 k (by omega)
    have ek : ((k : Nat) : Int).toNat = k := by omega
    have hs := ysm_bd12 v (n := k) (by omega)
    have hs1 := ysm_bd12 v (n := k + 1) (by omega)
    refine T2_4 hh ⟨by omega, by omega, ?_⟩
    rw [if_neg (by unfold yn at e; omega)]
    rw [ek, et, e7, e8]
    refine ⟨by omega, ?_⟩
    have es : ysm (fun k => r (58 + k)) k + r (58 + k) = ysm (fun k => r (58 + k)) (k + 1) := rfl
    rw [es]
    refine K29 hh (by omega) v.lo v.by ⟨_, rfl, rfl, K29 hh (by omega) v.lo v.by ⟨_, rfl, rfl, ?_⟩⟩
    refine L2c hh t v H m (k + 1) _ (by omega) (fun i hi => ?_) (fun p hp => by rw [up_out hp, h2 p hp])
    rw [up_at]
    by_cases q : i = k
    · rw [if_pos q, q]; rfl
    · rw [if_neg q]; exact h1 i (by omega)
theorem K2 (hh : RfH h) {r : Row} (t : Ytk F 1 r) (v : Yvd r) (H : ∀ F' : Nat → Nat → Int, (∀ i, i < yn r → F' 276 i = fk r (yn r) 0 i) → (∀ p, p ≠ 276 → F' p = F p) → Q none (Wd S L F' G h)) : C2_0 (Wd S L F G h) Q :=
  T2_0 hh (L2c hh t v H (yn r) 0 F (by omega) (fun i hi => absurd hi (Nat.not_lt_zero i)) (fun p hp => rfl))
/-- what is lent to a sound without a frame -/
def ldT (n : Nat) (f : Nat → Int) (i : Nat) : Int × (Nat → Int) := if 0 < i ∧ 2 ≤ f (i - 1) then (1, yu1 (yu1 f (i - 1) (f (i - 1) - 1)) i 1) else if i + 1 < n ∧ 2 ≤ f (i + 1) then (2, yu1 (yu1 f (i + 1) (f (i + 1) - 1)) i 1) else (0, f)
theorem K4 (hh : RfH h) {n k : Nat} (hn : n ≤ 12) (hk : k < n) (hb : ∀ j, j < n → 0 ≤ F 276 j ∧ F 276 j ≤ 100) (h0 : F 276 k = 0) (H : ∀ F' : Nat → Nat → Int, F' 276 = (ldT n (F 276) k).2 → (∀ p, p ≠ 276 → F' p = F p) → Q (some (vi (ldT n (F 276) k).1)) (Wd S L F' G h)) : C4_0 (k : Int) (n : Int) (Wd S L F G h) Q := by
  have ek : ((k : Nat) : Int).toNat = k := by omega
  have ek1 : ((k : Int) + 1).toNat = k + 1 := by omega
  have go2 : ¬ (0 < k ∧ 2 ≤ F 276 (k - 1)) → (R32 ((k : Int) + 1) ∧ R32 (n : Int) ∧ (if (n : Int) ≤ (k : Int) + 1 then Q (some (vi 0)) (Wd S L F G h) else ((0 ≤ (k : Int) + 1 ∧ (k : Int) + 1 < 12) ∧ R32 (F 276 ((k : Int) + 1).toNat) ∧ (if F 276 ((k : Int) + 1).toNat < 2 then Q (some (vi 0)) (Wd S L F G h) else ((0 ≤ (k : Int) ∧ (k : Int) < 12) ∧ Q (some (vi 2)) (Wd S L (am_up (am_up F 276 ((k : Int) + 1).toNat (F 276 ((k : Int) + 1).toNat - 1)) 276 (k : Int).toNat (am_up F 276 ((k : Int) + 1).toNat (F 276 ((k : Int) + 1).toNat - 1) 276 (k : Int).toNat + 1)) G h)))))) := fun hA => by
    rw [ek, ek1]
    refine ⟨by omega, by omega, ?_⟩
    unfold ldT at H
    rw [if_neg hA] at H
    split
    · rw [if_neg (by omega)] at H
      exact H F rfl (fun p hp => rfl)
    · have hb1 := hb (k + 1) (by omega)
      refine ⟨by omega, by omega, ?_⟩
      split
      · rw [if_neg (by omega)] at H
        exact H F rfl (fun p hp => rfl)
      · rw [if_pos (by omega)] at H
        have e0 : am_up F 276 (k + 1) (F 276 (k + 1) - 1) 276 k = 0 := by rw [up_at, if_neg (by omega), h0]
        rw [e0]
        refine ⟨by omega, H _ ?_ (fun p hp => by rw [up_out hp, up_out hp])⟩
        funext j
        rw [up_at, up_at]
        rfl
  refine T4_0 hh ⟨by omega, ?_⟩
  split
  · exact go2 (by omega)
  · have ekm : ((k : Int) - 1).toNat = k - 1 := by omega
    have hb1 := hb (k - 1) (by omega)
    rw [ekm]
    refine ⟨by omega, by omega, ?_⟩
    split
    · exact go2 (by omega)
    · unfold ldT at H
      rw [if_pos (by omega)] at H
      have e0 : am_up F 276 (k - 1) (F 276 (k - 1) - 1) 276 k = 0 := by rw [up_at, if_neg (by omega), h0]
      rw [ek, e0]
      refine ⟨by omega, H _ ?_ (fun p hp => by rw [up_out hp, up_out hp])⟩
      funext j
      rw [up_at, up_at]
      rfl
/-- as far as k: what lend has made -/
def YlI (F F1 : Nat → Nat → Int) (r : Row) (k : Nat) : Prop := (∀ j, j < yn r → F1 276 j = fk r (yn r) k j) ∧ (∀ j, j < k → F1 277 j = yln r j) ∧ (∀ j, j < k → F1 278 j = ylo r j) ∧ F1 275 3 = ysm (yzr r) k ∧ F1 275 4 = ysm (ylo r) k ∧ (∀ p, p ≠ 275 → p ≠ 276 → p ≠ 277 → p ≠ 278 → F1 p = F p)
theorem YlI.next {F1 F2 : Nat → Nat → Int} {r : Row} {k : Nat} (I : YlI F F1 r k) (h6 : ∀ j, j < yn r → F2 276 j = fk r (yn r) (k + 1) j) (o : ∀ p, p ≠ 276 → F2 p = F1 p) {x y z : Int} (hx : x = yln r k) (hy : y = ylo r k) (hz : z = yzr r k) :
    YlI F (am_up (am_up (am_up (am_up F2 277 k x) 278 k y) 275 4 ((F2 275 4) + ((am_up (am_up F2 277 k x) 278 k y) 278 k))) 275 3 ((F2 275 3) + z)) r (k + 1) := by
  obtain ⟨i1, i2, i3, i4, i5, i6⟩ := I
  have e : am_up (am_up F2 277 k x) 278 k y 278 k = y := by rw [up_at, if_pos rfl]
  rw [e]
  refine ⟨fun j hj => ?_, fun j hj => ?_, fun j hj => ?_, ?_, ?_, fun p h1 h2 h3 h4 => ?_⟩
  · rw [up_out (by decide), up_out (by decide), up_out (by decide), up_out (by decide)]
    exact h6 j hj
  · rw [up_out (by decide), up_out (by decide), up_out (by decide), up_at, o 277 (by decide)]
    by_cases q : j = k
    · rw [if_pos q, q]; exact hx
    · rw [if_neg q]; exact i2 j (by omega)
  · rw [up_out (by decide), up_out (by decide), up_at, up_out (by decide), o 278 (by decide)]
    by_cases q : j = k
    · rw [if_pos q, q]; exact hy
    · rw [if_neg q]; exact i3 j (by omega)
  · rw [up_at, if_pos rfl, o 275 (by decide), i4, hz]; rfl
  · rw [up_at, if_neg (by decide), up_at, if_pos rfl, o 275 (by decide), i5, hy]; rfl
  · rw [up_out h1, up_out h1, up_out h4, up_out h3, o p h2]
    exact i6 p h1 h2 h3 h4
theorem ysm_flag {f : Nat → Int} : ∀ {n : Nat}, (∀ i, i < n → f i = 0 ∨ f i = 1) → 0 ≤ ysm f n ∧ ysm f n ≤ n
  | 0, _ => by simp [ysm]
  | n + 1, h => by
    have ih := ysm_flag (f := f) (n := n) (fun i hi => h i (by omega))
    have := h n (by omega)
    show 0 ≤ ysm f n + f n ∧ ysm f n + f n ≤ ((n + 1 : Nat) : Int)
    omega
theorem L3 (hh : RfH h) {r : Row} (t : Ytk F 1 r) (v : Yvd r) (H : ∀ F' : Nat → Nat → Int, YlI F F' r (yn r) → Q none (Wd S L F' G h)) :
    ∀ (m k : Nat) (F1 : Nat → Nat → Int), k + m = yn r → YlI F F1 r k → C3_12 (k : Int) (Wd S L F1 G h) Q
  | 0, k, F1, e, I => by
    have hn := v.n
    have e6 : F1 1 6 = r 0 := by rw [I.2.2.2.2.2 1 (by decide) (by decide) (by decide) (by decide)]; exact t.n1
    have : k = yn r := by omega
    subst this
    refine T3_12 hh ⟨by unfold yn; omega, by omega, ?_⟩
    rw [if_pos (by unfold yn; omega)]
    exact H F1 I
  | m + 1, k, F1, e, I => by
    have hn := v.n
    have hy := yn_le v
    have hyn : ((yn r : Nat) : Int) = r 0 := by unfold yn; omega
    have o := I.2.2.2.2.2
    have e6 : F1 1 6 = r 0 := by rw [o 1 (by decide) (by decide) (by decide) (by decide)]; exact t.n1
    have ek : ((k : Nat) : Int).toNat = k := by omega
    have es : F1 6 k = r (46 + k) := by rw [o 6 (by decide) (by decide) (by decide) (by decide)]; exact t.sg1 k (by omega)
    have hs := v.sg k (by omega)
    have eh : F1 4 (r (46 + k)).toNat = vshp r k := by rw [o 4 (by decide) (by decide) (by decide) (by decide)]; exact t.sh1 (r (46 + k)).toNat (by omega)
    have hv := vshp_bd v (i := k) (by omega)
    have eo : F1 2 (vshp r k).toNat = r (6 + (vshp r k).toNat) := by rw [o 2 (by decide) (by decide) (by decide) (by decide)]; exact t.op1 _ (by omega)
    have ho := v.op (vshp r k).toNat (by omega)
    have ef : F1 276 k = fk r (yn r) k k := I.1 k (by omega)
    have hf := fk_bd v (k := k) (i := k) (by omega) (by omega)
    have next : ∀ F2 : Nat → Nat → Int, YlI F F2 r (k + 1) → C3_12 ((k : Int) + 1) (Wd S L F2 G h) Q := fun F2 I2 => L3 hh t v H m (k + 1) F2 (by omega) I2
    have hz : yzr r k = if fk r (yn r) (k + 1) k = 0 then 1 else 0 := rfl
    refine T3_12 hh ?_
    rw [ek]
    refine ⟨by omega, by omega, ?_⟩
    rw [if_neg (by omega), es, eh, eo, ef, e6]
    refine ⟨by omega, by omega, by omega, by omega, ?_⟩
    split
    · rename_i c1
      refine ⟨by omega, ?_⟩
      split
      · rename_i c2
        have need : r (6 + (vshp r k).toNat) = 0 ∧ fk r (yn r) k k = 0 := ⟨c1, c2⟩
        have eA : ∀ i, i < yn r → F1 276 i = fk r (yn r) k i := I.1
        rw [← hyn]
        refine K4 hh hy (by omega) (fun j hj => by rw [eA j hj]; exact fk_bd v (by omega) hj) (by rw [ef]; exact c2) (fun F2 g1 g2 => ⟨_, _, rfl, rfl, ?_⟩)
        -- what lend says, in the row's words
        have key : (ldT (yn r) (F1 276) k).1 = yln r k ∧ (∀ j, j < yn r → (ldT (yn r) (F1 276) k).2 j = fk r (yn r) (k + 1) j) ∧ (ylo r k = if yln r k = 0 then 1 else 0) := by
          show _ ∧ (∀ j, j < yn r → _ = ldF r (yn r) (fk r (yn r) k) k j) ∧ _
          unfold ldT yln ylo ldL ldX ldF
          simp only [if_pos need]
          by_cases cA : 0 < k ∧ 2 ≤ fk r (yn r) k (k - 1)
          · have cA' : 0 < k ∧ 2 ≤ F1 276 (k - 1) := ⟨cA.1, by rw [eA _ (by omega)]; exact cA.2⟩
            simp only [if_pos cA, if_pos cA']
            refine ⟨trivial, fun j hj => ?_, by rw [if_neg (by decide)]⟩
            unfold yu1
            rw [eA _ (by omega), eA j hj]
          · have cA' : ¬ (0 < k ∧ 2 ≤ F1 276 (k - 1)) := fun x => cA ⟨x.1, by rw [← eA _ (by omega)]; exact x.2⟩
            simp only [if_neg cA, if_neg cA']
            by_cases cB : k + 1 < yn r ∧ 2 ≤ fk r (yn r) k (k + 1)
            · have cB' : k + 1 < yn r ∧ 2 ≤ F1 276 (k + 1) := ⟨cB.1, by rw [eA _ (by omega)]; exact cB.2⟩
              simp only [if_pos cB, if_pos cB']
              refine ⟨trivial, fun j hj => ?_, by rw [if_neg (by decide)]⟩
              unfold yu1
              rw [eA _ (by omega), eA j hj]
            · have cB' : ¬ (k + 1 < yn r ∧ 2 ≤ F1 276 (k + 1)) := fun x => cB ⟨x.1, by rw [← eA _ (by omega)]; exact x.2⟩
              simp only [if_neg cB, if_neg cB']
              exact ⟨trivial, fun j hj => eA j hj, (if_pos trivial).symm⟩
        obtain ⟨k1, k2, k3⟩ := key
        have g3 : ∀ j, j < yn r → F2 276 j = fk r (yn r) (k + 1) j := fun j hj => by rw [g1]; exact k2 j hj
        have hfk := fk_bd v (k := k + 1) (i := k) (by omega) (by omega)
        have hln := yln_bd r k
        rw [k1]
        have e277 : am_up F2 277 k (yln r k) 277 k = yln r k := by rw [up_at, if_pos rfl]
        rw [e277, g3 k (by omega)]
        refine ⟨by omega, ?_⟩
        split
        · rename_i c3
          rw [if_pos c3] at k3
          refine ⟨by omega, ?_⟩
          split
          · rename_i c4
            rw [if_pos c4] at hz
            exact next _ (I.next g3 g2 rfl k3.symm hz.symm)
          · rename_i c4
            rw [if_neg c4] at hz
            exact next _ (I.next g3 g2 rfl k3.symm hz.symm)
        · rename_i c3
          rw [if_neg c3] at k3
          refine ⟨by omega, ?_⟩
          split
          · rename_i c4
            rw [if_pos c4] at hz
            exact next _ (I.next g3 g2 rfl k3.symm hz.symm)
          · rename_i c4
            rw [if_neg c4] at hz
            exact next _ (I.next g3 g2 rfl k3.symm hz.symm)
      · rename_i c2
        have need : ¬ (r (6 + (vshp r k).toNat) = 0 ∧ fk r (yn r) k k = 0) := fun x => c2 x.2
        have e1 : yln r k = 0 := by unfold yln ldL; rw [if_neg need]
        have e2 : ylo r k = 0 := by unfold ylo ldX; rw [if_neg need]
        have e3 : fk r (yn r) (k + 1) = fk r (yn r) k := by show ldF _ _ _ _ = _; unfold ldF; rw [if_neg need]
        rw [e3, if_neg c2] at hz
        exact next _ (I.next (by rw [e3]; exact I.1) (fun p hp => rfl) e1.symm e2.symm hz.symm)
    · rename_i c1
      have need : ¬ (r (6 + (vshp r k).toNat) = 0 ∧ fk r (yn r) k k = 0) := fun x => c1 x.1
      have e1 : yln r k = 0 := by unfold yln ldL; rw [if_neg need]
      have e2 : ylo r k = 0 := by unfold ylo ldX; rw [if_neg need]
      have e3 : fk r (yn r) (k + 1) = fk r (yn r) k := by show ldF _ _ _ _ = _; unfold ldF; rw [if_neg need]
      rw [e3] at hz
      refine ⟨by omega, ?_⟩
      split
      · rename_i c2
        rw [if_pos c2] at hz
        exact next _ (I.next (by rw [e3]; exact I.1) (fun p hp => rfl) e1.symm e2.symm hz.symm)
      · rename_i c2
        rw [if_neg c2] at hz
        exact next _ (I.next (by rw [e3]; exact I.1) (fun p hp => rfl) e1.symm e2.symm hz.symm)
theorem K3 (hh : RfH h) {r : Row} (t : Ytk F 1 r) (v : Yvd r) (h6 : ∀ i, i < yn r → F 276 i = fk r (yn r) 0 i) (H : ∀ F' : Nat → Nat → Int, YlI F F' r (yn r) → Q none (Wd S L F' G h)) : C3_0 (Wd S L F G h) Q :=
  T3_0 hh (L3 hh t v H (yn r) 0 _ (by omega) ⟨fun j hj => by rw [up_out (by decide), up_out (by decide)]; exact h6 j hj, fun j hj => absurd hj (Nat.not_lt_zero j), fun j hj => absurd hj (Nat.not_lt_zero j), by rw [up_at, if_neg (by decide), up_at, if_pos rfl]; rfl, by rw [up_at, if_pos rfl]; rfl, fun p h1 h2 h3 h4 => by rw [up_out h1, up_out h1]⟩)
/-- frames placed, as many as c -/
def YpI (F F1 : Nat → Nat → Int) (r : Row) (c : Int) : Prop := F1 275 7 = c ∧ (∀ f : Nat, (f : Int) < c → F1 279 f = (ysA r f : Int) ∧ F1 280 f = ysh r f) ∧ (∀ j, j ≠ 7 → F1 275 j = F 275 j) ∧ (∀ p, p ≠ 275 → p ≠ 279 → p ≠ 280 → F1 p = F p)
theorem L5 (hh : RfH h) {r : Row} (t : Ytk F 1 r) (v : Yvd r) (h6 : ∀ i, i < yn r → F 276 i = yfr' r i) (H : ∀ F' : Nat → Nat → Int, YpI F F' r (yM r (yn r)) → Q none (Wd S L F' G h)) :
    ∀ (m i : Nat) (F1 : Nat → Nat → Int), i + m = yn r → YpI F F1 r (ysm (yfr' r) i) → C5_7 (i : Int) (Wd S L F1 G h) Q
  | 0, i, F1, e, I => by
    have hn := v.n
    have e6 : F1 1 6 = r 0 := by rw [I.2.2.2 1 (by decide) (by decide) (by decide)]; exact t.n1
    have : i = yn r := by omega
    subst this
    refine T5_7 hh ⟨by unfold yn; omega, by omega, ?_⟩
    rw [if_pos (by unfold yn; omega)]
    rw [yfr_sum v] at I
    exact H F1 I
  | m + 1, i, F1, e, I => by
    have hn := v.n
    have hy := yn_le v
    have hyn : ((yn r : Nat) : Int) = r 0 := by unfold yn; omega
    have e6 : F1 1 6 = r 0 := by rw [I.2.2.2 1 (by decide) (by decide) (by decide)]; exact t.n1
    have hT := yM_n v
    have hfi := yfr_bd' v (i := i) (by omega)
    have hle := yfr_mono v (a := i + 1) (b := yn r) (by omega) (Nat.le_refl _)
    rw [yfr_sum v] at hle
    have hge := yfr_mono v (a := 0) (b := i) (by omega) (by omega)
    have h00 : ysm (yfr' r) 0 = 0 := rfl
    have hsucc : ysm (yfr' r) (i + 1) = ysm (yfr' r) i + yfr' r i := rfl
    refine T5_7 hh ⟨by omega, by omega, ?_⟩
    rw [if_neg (by omega)]
    -- the frames of sound i
    have inner : ∀ (d k : Nat) (F2 : Nat → Nat → Int), (k : Int) + (d : Int) = yfr' r i → YpI F F2 r (ysm (yfr' r) i + (k : Int)) → C5_17 (i : Int) (k : Int) (Wd S L F2 G h) Q := by
      intro d
      induction d with
      | zero =>
        intro k F2 hd I2
        have e2 : F2 276 i = yfr' r i := by rw [I2.2.2.2 276 (by decide) (by decide) (by decide)]; exact h6 i (by omega)
        have ei : ((i : Nat) : Int).toNat = i := by omega
        refine T5_17 hh ?_
        rw [ei, e2]
        refine ⟨by omega, by omega, by omega, ?_⟩
        rw [if_pos (by omega)]
        refine L5 hh t v h6 H m (i + 1) F2 (by omega) ?_
        rw [hsucc]
        rw [show ysm (yfr' r) i + (k : Int) = ysm (yfr' r) i + yfr' r i by omega] at I2
        exact I2
      | succ d ih =>
        intro k F2 hd I2
        obtain ⟨j1, j2, j3, j4⟩ := I2
        have e2 : F2 276 i = yfr' r i := by rw [j4 276 (by decide) (by decide) (by decide)]; exact h6 i (by omega)
        have ei : ((i : Nat) : Int).toNat = i := by omega
        have es : F2 6 i = r (46 + i) := by rw [j4 6 (by decide) (by decide) (by decide)]; exact t.sg1 i (by omega)
        have hs := v.sg i (by omega)
        have eh : F2 4 (r (46 + i)).toNat = vshp r i := by rw [j4 4 (by decide) (by decide) (by decide)]; exact t.sh1 _ (by omega)
        refine T5_17 hh ?_
        rw [ei, e2, es, eh, j1]
        refine ⟨by omega, by omega, by omega, ?_⟩
        rw [if_neg (by omega)]
        refine ⟨by omega, ?_⟩
        rw [if_neg (by omega)]
        refine ⟨by omega, by omega, ?_⟩
        refine ih (k + 1) _ (by omega) ⟨?_, fun f hf => ?_, fun j hj => ?_, fun p h1 h2 h3 => ?_⟩
        · rw [up_at, if_pos rfl]; omega
        · rw [up_out (by decide), up_out (by decide), up_at, up_out (by decide), up_at, up_out (by decide)]
          by_cases q : f = (ysm (yfr' r) i + (k : Int)).toNat
          · have hA := ysA_of v (f := f) (j := i) (by omega) (by omega) (by omega)
            rw [if_pos q, if_pos q]
            unfold ysh
            rw [hA]
            exact ⟨rfl, rfl⟩
          · rw [if_neg q, if_neg q]
            exact j2 f (by omega)
        · rw [up_at, if_neg hj, up_out (by decide), up_out (by decide)]
          exact j3 j hj
        · rw [up_out h1, up_out h3, up_out h2]
          exact j4 p h1 h2 h3
    exact inner (yfr' r i).toNat 0 F1 (by omega) (by rw [show ysm (yfr' r) i + ((0 : Nat) : Int) = ysm (yfr' r) i by omega]; exact I)
theorem K5 (hh : RfH h) {r : Row} (t : Ytk F 1 r) (v : Yvd r) (h6 : ∀ i, i < yn r → F 276 i = yfr' r i) (H : ∀ F' : Nat → Nat → Int, YpI F F' r (yM r (yn r)) → Q none (Wd S L F' G h)) : C5_0 (Wd S L F G h) Q :=
  T5_0 hh (L5 hh t v h6 H (yn r) 0 _ (by omega) ⟨by rw [up_at, if_pos rfl]; rfl, fun f hf => by
      have h00 : ysm (yfr' r) 0 = 0 := rfl
      omega, fun j hj => by rw [up_at, if_neg hj], fun p h1 h2 h3 => by rw [up_out h1]⟩)
/-- holds found, as far as k -/
def YhI (F F1 : Nat → Nat → Int) (q : Nat → Int) (k : Nat) : Prop := F1 275 8 = (yhs q k).1 ∧ F1 275 9 = (yhs q k).2.2.1 ∧ F1 275 10 = (yhs q k).2.2.2 ∧ (∀ j, j ≠ 8 → j ≠ 9 → j ≠ 10 → F1 275 j = F 275 j) ∧ (∀ p, p ≠ 275 → F1 p = F p)
theorem yhs_nl {q : Nat → Int} {k : Nat} (c : k = 0 ∨ q k ≠ q (k - 1)) (c2 : (k : Int) - k + 1 ≤ (yhs q k).2.2.1) : yhs q (k + 1) = ((yhs q k).1 + 1, (k : Int), (yhs q k).2.2.1, (yhs q k).2.2.2) := by
  simp only [yhs, if_pos c]
  rw [if_neg (by omega)]
theorem yhs_ng {q : Nat → Int} {k : Nat} (c : k = 0 ∨ q k ≠ q (k - 1)) (c2 : ¬ (k : Int) - k + 1 ≤ (yhs q k).2.2.1) : yhs q (k + 1) = ((yhs q k).1 + 1, (k : Int), (k : Int) - k + 1, (k : Int)) := by
  simp only [yhs, if_pos c]
  rw [if_pos (by omega)]
theorem yhs_ol {q : Nat → Int} {k : Nat} (c : ¬ (k = 0 ∨ q k ≠ q (k - 1))) (c2 : (k : Int) - (yhs q k).2.1 + 1 ≤ (yhs q k).2.2.1) : yhs q (k + 1) = ((yhs q k).1, (yhs q k).2.1, (yhs q k).2.2.1, (yhs q k).2.2.2) := by
  simp only [yhs, if_neg c]
  rw [if_neg (by omega)]
theorem yhs_og {q : Nat → Int} {k : Nat} (c : ¬ (k = 0 ∨ q k ≠ q (k - 1))) (c2 : ¬ (k : Int) - (yhs q k).2.1 + 1 ≤ (yhs q k).2.2.1) : yhs q (k + 1) = ((yhs q k).1, (yhs q k).2.1, (k : Int) - (yhs q k).2.1 + 1, (yhs q k).2.1) := by
  simp only [yhs, if_neg c]
  rw [if_pos (by omega)]
theorem L6 (hh : RfH h) {q : Nat → Int} {T : Nat} (hT : T ≤ 100) (hq : ∀ f, f < T → 0 ≤ q f ∧ q f < 8) (e7 : F 275 7 = (T : Int)) (e280 : ∀ f, f < T → F 280 f = q f) (H : ∀ F' : Nat → Nat → Int, YhI F F' q T → Q none (Wd S L F' G h)) :
    ∀ (m k : Nat) (F1 : Nat → Nat → Int), k + m = T → YhI F F1 q k → C6_19 (yhs q k).2.1 (k : Int) (Wd S L F1 G h) Q
  | 0, k, F1, e, I => by
    have e71 : F1 275 7 = (T : Int) := by rw [I.2.2.2.1 7 (by decide) (by decide) (by decide)]; exact e7
    have : k = T := by omega
    subst this
    refine T6_19 hh ⟨by omega, by omega, ?_⟩
    rw [if_pos (by omega)]
    exact H F1 I
  | m + 1, k, F1, e, I => by
    obtain ⟨i1, i2, i3, i4, i5⟩ := id I
    have e71 : F1 275 7 = (T : Int) := by rw [i4 7 (by decide) (by decide) (by decide)]; exact e7
    have hb := yhs_bd q k
    have ih := L6 hh hT hq e7 e280 H m (k + 1)
    have upd : ∀ (F2 : Nat → Nat → Int) (a b c d : Int), yhs q (k + 1) = (a, b, c, d) → F2 275 8 = a → F2 275 9 = c → F2 275 10 = d → (∀ j, j ≠ 8 → j ≠ 9 → j ≠ 10 → F2 275 j = F1 275 j) → (∀ p, p ≠ 275 → F2 p = F1 p) → C6_19 b ((k : Int) + 1) (Wd S L F2 G h) Q := fun F2 a b c d hs h8 h9 h10 h11 h12 => by
      have := ih F2 (by omega) ⟨by rw [hs]; exact h8, by rw [hs]; exact h9, by rw [hs]; exact h10, fun j q1 q2 q3 => by rw [h11 j q1 q2 q3, i4 j q1 q2 q3], fun p hp => by rw [h12 p hp, i5 p hp]⟩
      rw [hs] at this
      exact this
    -- a hold begins
    have new : (k = 0 ∨ q k ≠ q (k - 1)) → (R32 (((k : Int) - k) + 1) ∧ R32 (F1 275 9) ∧ (if (((k : Int) - k) + 1) ≤ (F1 275 9) then C6_19 (k : Int) ((k : Int) + 1) (Wd S L (am_up F1 275 8 ((F1 275 8) + 1)) G h) Q else C6_19 (k : Int) ((k : Int) + 1) (Wd S L (am_up (am_up (am_up F1 275 8 ((F1 275 8) + 1)) 275 9 (((k : Int) - k) + 1)) 275 10 (k : Int)) G h) Q)) := fun c => by
      refine ⟨by omega, by omega, ?_⟩
      split
      · rename_i c2
        refine upd _ _ _ _ _ (yhs_nl c (by rw [← i2]; exact c2)) ?_ ?_ ?_ (fun j q1 q2 q3 => ?_) (fun p hp => ?_)
        · rw [up_at, if_pos rfl, i1]
        · rw [up_at, if_neg (by decide)]; exact i2
        · rw [up_at, if_neg (by decide)]; exact i3
        · rw [up_at, if_neg q1]
        · rw [up_out hp]
      · rename_i c2
        refine upd _ _ _ _ _ (yhs_ng c (by rw [← i2]; exact c2)) ?_ ?_ ?_ (fun j q1 q2 q3 => ?_) (fun p hp => ?_)
        · rw [up_at, if_neg (by decide), up_at, if_neg (by decide), up_at, if_pos rfl, i1]
        · rw [up_at, if_neg (by decide), up_at, if_pos rfl]
        · rw [up_at, if_pos rfl]
        · rw [up_at, if_neg q3, up_at, if_neg q2, up_at, if_neg q1]
        · rw [up_out hp, up_out hp, up_out hp]
    refine T6_19 hh ⟨by omega, by omega, ?_⟩
    rw [if_neg (by omega)]
    split
    · exact new (Or.inl (by omega))
    · rename_i c0
      have ek : ((k : Nat) : Int).toNat = k := by omega
      have ek1 : ((k : Int) - 1).toNat = k - 1 := by omega
      have a1 : F1 280 k = q k := by rw [i5 280 (by decide)]; exact e280 k (by omega)
      have a2 : F1 280 (k - 1) = q (k - 1) := by rw [i5 280 (by decide)]; exact e280 (k - 1) (by omega)
      have b1 := hq k (by omega)
      have b2 := hq (k - 1) (by omega)
      rw [ek, ek1, a1, a2]
      refine ⟨by omega, by omega, by omega, by omega, ?_⟩
      split
      · rename_i c1
        have c : ¬ (k = 0 ∨ q k ≠ q (k - 1)) := by omega
        refine ⟨by omega, by omega, ?_⟩
        split
        · rename_i c2
          exact upd _ _ _ _ _ (yhs_ol c (by rw [← i2]; exact c2)) i1 i2 i3 (fun j q1 q2 q3 => rfl) (fun p hp => rfl)
        · rename_i c2
          refine upd _ _ _ _ _ (yhs_og c (by rw [← i2]; exact c2)) ?_ ?_ ?_ (fun j q1 q2 q3 => ?_) (fun p hp => ?_)
          · rw [up_at, if_neg (by decide), up_at, if_neg (by decide)]; exact i1
          · rw [up_at, if_neg (by decide), up_at, if_pos rfl]
          · rw [up_at, if_pos rfl]
          · rw [up_at, if_neg q3, up_at, if_neg q2]
          · rw [up_out hp, up_out hp]
      · rename_i c1
        exact new (Or.inr c1)
theorem K6 (hh : RfH h) {q : Nat → Int} {T : Nat} (hT : T ≤ 100) (hq : ∀ f, f < T → 0 ≤ q f ∧ q f < 8) (e7 : F 275 7 = (T : Int)) (e280 : ∀ f, f < T → F 280 f = q f) (H : ∀ F' : Nat → Nat → Int, YhI F F' q T → Q none (Wd S L F' G h)) : C6_0 (Wd S L F G h) Q :=
  T6_0 hh (L6 hh hT hq e7 e280 H T 0 _ (by omega) ⟨by rw [up_at, if_neg (by decide), up_at, if_neg (by decide), up_at, if_pos rfl]; rfl, by rw [up_at, if_neg (by decide), up_at, if_pos rfl]; rfl, by rw [up_at, if_pos rfl]; rfl, fun j h1 h2 h3 => by rw [up_at, if_neg h3, up_at, if_neg h2, up_at, if_neg h1], fun p hp => by rw [up_out hp, up_out hp, up_out hp]⟩)
/-- the line cut into frames, in the component's cells -/
def Ycut (F : Nat → Nat → Int) (r : Row) : Prop := (∀ i, i < yn r → F 276 i = yfr' r i ∧ F 277 i = yln r i ∧ F 278 i = ylo r i) ∧ F 275 3 = ysm (yzr r) (yn r) ∧ F 275 4 = ysm (ylo r) (yn r) ∧ F 275 7 = yM r (yn r) ∧ (∀ f : Nat, (f : Int) < yM r (yn r) → F 279 f = (ysA r f : Int) ∧ F 280 f = ysh r f) ∧ F 275 8 = (yhs (ysh r) (yM r (yn r)).toNat).1 ∧ F 275 9 = (yhs (ysh r) (yM r (yn r)).toNat).2.2.1 ∧ F 275 10 = (yhs (ysh r) (yM r (yn r)).toNat).2.2.2
theorem ysh_bd {r : Row} (v : Yvd r) {f : Nat} (h : (f : Int) < yM r (yn r)) : 0 ≤ ysh r f ∧ ysh r f < 8 := by
  have := (ysA_is v h).1
  have := yn_le v
  exact vshp_bd v (by omega)
theorem K1 (hh : RfH h) {r : Row} (t : Ytk F 1 r) (v : Yvd r) (H : ∀ F' : Nat → Nat → Int, Ycut F' r → (∀ p, p < 275 ∨ 281 ≤ p → F' p = F p) → Q none (Wd S L F' G h)) : C1_0 (Wd S L F G h) Q := by
  have hT := yM_n v
  refine T1_0 hh (K2 hh t v (fun F1 a1 a2 => ⟨_, rfl, rfl, ?_⟩))
  have t1 : Ytk F1 1 r := t.cong (fun x h1 h2 => a2 x (by omega))
  refine K3 hh t1 v a1 (fun F2 I2 => ⟨_, rfl, rfl, ?_⟩)
  obtain ⟨b1, b2, b3, b4, b5, b6⟩ := I2
  have t2 : Ytk F2 1 r := t1.cong (fun x h1 h2 => b6 x (by omega) (by omega) (by omega) (by omega))
  refine K5 hh t2 v b1 (fun F3 I3 => ⟨_, rfl, rfl, ?_⟩)
  obtain ⟨c1, c2, c3, c4⟩ := I3
  refine K6 (q := ysh r) (T := (yM r (yn r)).toNat) hh (by omega) (fun f hf => ysh_bd v (by omega)) (by rw [c1]; omega) (fun f hf => (c2 f (by omega)).2) (fun F4 I4 => ⟨_, rfl, rfl, ?_⟩)
  obtain ⟨d1, d2, d3, d4, d5⟩ := I4
  refine H F4 ⟨fun i hi => ?_, ?_, ?_, ?_, fun f hf => ?_, d1, d2, d3⟩ (fun p hp => ?_)
  · rw [d5 276 (by decide), d5 277 (by decide), d5 278 (by decide), c4 276 (by decide) (by decide) (by decide), c4 277 (by decide) (by decide) (by decide), c4 278 (by decide) (by decide) (by decide)]
    exact ⟨b1 i hi, b2 i hi, b3 i hi⟩
  · rw [d4 3 (by decide) (by decide) (by decide), c3 3 (by decide)]; exact b4
  · rw [d4 4 (by decide) (by decide) (by decide), c3 4 (by decide)]; exact b5
  · rw [d4 7 (by decide) (by decide) (by decide)]; exact c1
  · rw [d5 279 (by decide), d5 280 (by decide)]; exact c2 f hf
  · rw [d5 p (by omega), c4 p (by omega) (by omega) (by omega), b6 p (by omega) (by omega) (by omega) (by omega), a2 p (by omega)]
theorem L7 (hh : RfH h) {f : Nat → Int} {n : Nat} (hn : n ≤ 12) (e : ∀ i, i < n → F 276 i = f i) (H : Q (some (vi (ysm f n))) (Wd S L F G h)) : ∀ (m k : Nat), k + m = n → C7_4 (n : Int) (ysm f k) (k : Int) (Wd S L F G h) Q
  | 0, k, hk => by
    refine T7_4 hh ⟨by omega, by omega, ?_⟩
    rw [if_pos (by omega)]
    have : k = n := by omega
    subst this
    exact H
  | m + 1, k, hk => by
    refine T7_4 hh ⟨by omega, by omega, ?_⟩
    rw [if_neg (by omega)]
    have ek : ((k : Nat) : Int).toNat = k := by omega
    rw [ek, e k (by omega)]
    exact ⟨by omega, L7 hh hn e H m (k + 1) (by omega)⟩
theorem K7 (hh : RfH h) {f : Nat → Int} {n : Nat} (hn : n ≤ 12) (e : ∀ i, i < n → F 276 i = f i) (H : Q (some (vi (ysm f n))) (Wd S L F G h)) : C7_0 (n : Int) (Wd S L F G h) Q :=
  T7_0 hh (L7 hh hn e H n 0 (by omega))
end CUT
