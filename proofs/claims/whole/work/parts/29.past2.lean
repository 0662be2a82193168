/-! the reference's past; undo, image, restore of both sides -/
section PAST2
variable {S L : Nat} {F G : Nat → Nat → Int} {h : Nat → Nat → Option Nat} {Q : Option V2 → W2 → Prop}
theorem L155 (hh : RfH h)  (H : ∀ F' : Nat → Nat → Int, (∀ k, F' 311 k = if 0 ≤ k ∧ k < 0 + 134 then F 298 (0 + (k - 0)) else F 311 k) → (∀ p, p ≠ 311 → F' p = F p) → Q none (Wd S L F' G h)) :
    ∀ (m k : Nat) (F1 : Nat → Nat → Int), k + m = 134 → (∀ j, F1 311 j = if 0 ≤ j ∧ j < 0 + k then F 298 (0 + (j - 0)) else F 311 j) → (∀ p, p ≠ 311 → F1 p = F p) → C155_2 (k : Int) (Wd S L F1 G h) Q
  | 0, k, F1, e, h1, h2 => by
    refine T155_2 hh ⟨by omega, ?_⟩
    rw [if_pos (by omega)]
    have : k = 134 := by omega
    subst this
    exact H F1 h1 h2
  | m + 1, k, F1, e, h1, h2 => by
    refine T155_2 hh ⟨by omega, ?_⟩
    rw [if_neg (by omega)]
    refine ⟨by omega, ?_⟩
    have ek : ((k : Nat) : Int).toNat = k := by omega
    rw [ek]
    refine L155 hh H m (k + 1) _ (by omega) (fun j => ?_) (fun p hp => ?_)
    · rw [up_at]
      by_cases q : j = 0 + k
      · rw [if_pos (by omega), if_pos (by omega), h2 298 (by omega), q]
        congr 1
        omega
      · rw [if_neg (by omega), h1 j]
        by_cases q2 : 0 ≤ j ∧ j < 0 + k
        · rw [if_pos q2, if_pos (by omega)]
        · rw [if_neg q2, if_neg (by omega)]
    · rw [up_out hp, h2 p hp]
theorem K155 (hh : RfH h) (H : ∀ F' : Nat → Nat → Int, (∀ k, k < 134 → F' 311 k = F 298 k) → (∀ p, p ≠ 311 → F' p = F p) → Q none (Wd S L F' G h)) : C155_0 (Wd S L F G h) Q := by
  refine T155_0 hh (L155 hh (fun F' g1 g2 => H F' (fun k hk => by rw [g1, if_pos (by omega)]; congr 1; omega) g2) 134 0 F (by omega) (fun j => by rw [if_neg (by omega)]) (fun p hp => rfl))
theorem L156 (hh : RfH h) {a : Nat} (ha : a < 6) (e2 : F 297 2 = (a : Int)) (H : ∀ F' : Nat → Nat → Int, (∀ k, F' 299 k = if 134 * a ≤ k ∧ k < 134 * a + 134 then F 311 (0 + (k - 134 * a)) else F 299 k) → (∀ p, p ≠ 299 → F' p = F p) → Q none (Wd S L (am_up F' 297 2 ((a : Int) + 1)) G h)) :
    ∀ (m k : Nat) (F1 : Nat → Nat → Int), k + m = 134 → (∀ j, F1 299 j = if 134 * a ≤ j ∧ j < 134 * a + k then F 311 (0 + (j - 134 * a)) else F 299 j) → (∀ p, p ≠ 299 → F1 p = F p) → C156_47 (k : Int) (Wd S L F1 G h) Q
  | 0, k, F1, e, h1, h2 => by
    refine T156_47 hh ⟨by omega, ?_⟩
    rw [if_pos (by omega)]
    have : k = 134 := by omega
    subst this
    have e3 : F1 297 2 = (a : Int) := by rw [h2 297 (by omega)]; exact e2
    rw [e3]
    exact H F1 h1 h2
  | m + 1, k, F1, e, h1, h2 => by
    refine T156_47 hh ⟨by omega, ?_⟩
    rw [if_neg (by omega)]
    have e3 : F1 297 2 = (a : Int) := by rw [h2 297 (by omega)]; exact e2
    rw [e3]
    refine ⟨by omega, by omega, ?_⟩
    have ek : ((k : Nat) : Int).toNat = k := by omega
    have ej : (134 * (a : Int) + (k : Int)).toNat = 134 * a + k := by omega
    rw [ek, ej]
    refine L156 hh ha e2 H m (k + 1) _ (by omega) (fun j => ?_) (fun p hp => ?_)
    · rw [up_at]
      by_cases q : j = 134 * a + k
      · rw [if_pos q, if_pos (by omega), h2 311 (by omega), q]
        congr 1
        omega
      · rw [if_neg q, h1 j]
        by_cases q2 : 134 * a ≤ j ∧ j < 134 * a + k
        · rw [if_pos q2, if_pos (by omega)]
        · rw [if_neg q2, if_neg (by omega)]
    · rw [up_out hp, h2 p hp]
theorem L156a (hh : RfH h) (H : ∀ F' : Nat → Nat → Int, (∀ j, F' 299 j = if j < 670 then F 299 (j + 134) else F 299 j) → (∀ p, p ≠ 299 → F' p = F p) → C156_47 0 (Wd S L (am_up F' 297 2 5) G h) Q) :
    ∀ (m k : Nat) (F1 : Nat → Nat → Int), k + m = 670 → (∀ j, F1 299 j = if j < k then F 299 (j + 134) else F 299 j) → (∀ p, p ≠ 299 → F1 p = F p) → C156_11 (k : Int) (Wd S L F1 G h) Q
  | 0, k, F1, e, h1, h2 => by
    refine T156_11 hh ⟨by omega, ?_⟩
    rw [if_pos (by omega)]
    have : k = 670 := by omega
    subst this
    exact H F1 h1 h2
  | m + 1, k, F1, e, h1, h2 => by
    refine T156_11 hh ⟨by omega, ?_⟩
    rw [if_neg (by omega)]
    refine ⟨by omega, by omega, ?_⟩
    have ek : ((k : Nat) : Int).toNat = k := by omega
    have ej : ((k : Int) + 134).toNat = k + 134 := by omega
    rw [ek, ej]
    refine L156a hh H m (k + 1) _ (by omega) (fun j => ?_) (fun p hp => ?_)
    · rw [up_at]
      by_cases q : j = k
      · rw [if_pos q, if_pos (by omega), h1 (k + 134), if_neg (by omega), q]
      · rw [if_neg q, h1 j]
        by_cases q2 : j < k
        · rw [if_pos q2, if_pos (by omega)]
        · rw [if_neg q2, if_neg (by omega)]
    · rw [up_out hp, h2 p hp]
def mR (F : Nat → Nat → Int) (p : Nat) : Nat → Row := fun i k => F p (134 * i + k)
theorem K156 (hh : RfH h) {n : Nat} (hn : n ≤ 6) (e2 : F 297 2 = (n : Int)) (H : ∀ F' : Nat → Nat → Int, F' 297 2 = (pushN n : Int) → (∀ k, k ≠ 2 → F' 297 k = F 297 k) → (∀ i, i < pushN n → ∀ k, k < 134 → mR F' 299 i k = pushR n (mR F 299) (F 311) i k) → (∀ p, p ≠ 297 → p ≠ 299 → F' p = F p) → Q none (Wd S L F' G h)) : C156_0 (Wd S L F G h) Q := by
  refine T156_0 hh ⟨by omega, ?_⟩
  split
  · have hn : n = 6 := by omega
    subst hn
    refine L156a hh (fun F1 g1 g2 => ?_) 670 0 F (by omega) (fun j => by rw [if_neg (by omega)]) (fun p hp => rfl)
    refine L156 (F := am_up F1 297 2 5) (a := 5) hh (by omega) (by rw [up_at, if_pos rfl]; rfl) (fun F' k1 k2 => ?_) 134 0 _ (by omega) (fun j => by rw [if_neg (by omega)]) (fun p hp => rfl)
    refine H _ (by rw [up_at, if_pos rfl]; rfl) (fun k hk => ?_) (fun i hi k hk => ?_) (fun p hp1 hp2 => ?_)
    · rw [up_at, if_neg hk, k2 297 (by omega), up_at, if_neg hk, g2 297 (by omega)]
    · have hi : i < 6 := hi
      unfold mR pushR
      rw [up_out (by omega), k1, if_pos rfl]
      by_cases q5 : i < 5
      · rw [if_neg (by omega), if_pos q5, up_out (by omega), g1, if_pos (by omega)]
        show F 299 (134 * i + k + 134) = F 299 (134 * (i + 1) + k)
        rw [show 134 * (i + 1) + k = 134 * i + k + 134 by omega]
      · rw [if_pos (by omega), if_neg q5, up_out (by omega), g2 311 (by omega), show 0 + (134 * i + k - 134 * 5) = k by omega]
    · rw [up_out hp1, k2 p hp2, up_out hp1, g2 p hp2]
  · have hn : n < 6 := by omega
    have ep : pushN n = n + 1 := by unfold pushN; rw [if_neg (by omega)]
    refine L156 (a := n) hh hn e2 (fun F' k1 k2 => ?_) 134 0 F (by omega) (fun j => by rw [if_neg (by omega)]) (fun p hp => rfl)
    refine H _ (by rw [up_at, if_pos rfl, ep]; omega) (fun k hk => ?_) (fun i hi k hk => ?_) (fun p hp1 hp2 => ?_)
    · rw [up_at, if_neg hk, k2 297 (by omega)]
    · rw [ep] at hi
      unfold mR pushR
      rw [up_out (by omega), k1, if_neg (show ¬ n = 6 by omega)]
      by_cases qn : i = n
      · rw [if_pos (by omega), if_pos qn]
        congr 1
        omega
      · rw [if_neg (by omega), if_neg qn]
    · rw [up_out hp1, k2 p hp2]
theorem K16 (hh : RfH h) {q : Nat → Nat} {n : Nat} {R : Nat → Row} (hq : Ysth h 37 q) (hp : Ypast F 37 q (n + 1) R) (H : ∀ F' : Nat → Nat → Int, Ytk F' 1 (R n) → Ypast F' 37 q n R → (∀ p, ¬ (1 ≤ p ∧ p < 19) → p ≠ 37 → F' p = F p) → Q none (Wd S L F' G h)) : C16_0 (Wd S L F G h) Q := by
  obtain ⟨hp0, hp6, hpR⟩ := hp
  have hn := hq.tp37 (i := n) (by omega)
  refine T16_0 hh ⟨by omega, ?_⟩
  rw [if_neg (by omega)]
  have en : (F 37 1 - 1).toNat = n := by omega
  refine ⟨by omega, q n, by rw [en]; exact hq.1 n (by omega), hn.1, ?_⟩
  refine K24 hh rfl hn.1 (by omega) (fun F' k1 k2 => ⟨_, rfl, rfl, ?_⟩)
  refine H F' (k1 _ ((hpR n (by omega)).cong (fun x hx hx2 => up_out (by omega)))) ⟨?_, by omega, fun i hi => ?_⟩ (fun p h1 h2 => ?_)
  · rw [k2 37 (by omega), up_at, if_pos rfl]; omega
  · have hi2 := hq.tp37 (i := i) (by omega)
    exact (hpR i (by omega)).cong (fun x hx hx2 => by rw [k2 x (by omega), up_out (by omega)])
  · rw [k2 p h1, up_out h2]
theorem L17 (hh : RfH h) {q q2 : Nat → Nat} {n : Nat} {R : Nat → Row} (hq : Ysth h 37 q) (hq2 : Ysth h 165 q2) (hp : Ypast F 165 q2 n R) (H : ∀ F' : Nat → Nat → Int, Ypast F' 37 q n R → (∀ p, ¬ (37 ≤ p ∧ p < 147) → F' p = F p) → Q none (Wd S L F' G h)) :
    ∀ (m k : Nat) (F1 : Nat → Nat → Int), k + m = n → (∀ i, i < k → Ytk F1 (q i) (R i)) → (∀ p, ¬ (37 ≤ p ∧ p < 147) → F1 p = F p) → C17_2 (k : Int) (Wd S L F1 G h) Q
  | 0, k, F1, e, h1, h2 => by
    have e0 : F1 165 1 = (n : Int) := by rw [h2 165 (by omega)]; exact hp.1
    have hn := hp.2.1
    refine T17_2 hh ⟨by omega, by omega, ?_⟩
    rw [if_pos (by omega)]
    refine H _ ⟨by rw [up_at, if_pos rfl]; exact e0, hn, fun i hi => ?_⟩ (fun p hp => by rw [up_out (by omega), h2 p hp])
    have hi2 := hq.tp37 (i := i) (by omega)
    exact (h1 i (by omega)).cong (fun x hx _ => up_out (by omega))
  | m + 1, k, F1, e, h1, h2 => by
    have e0 : F1 165 1 = (n : Int) := by rw [h2 165 (by omega)]; exact hp.1
    have hn := hp.2.1
    refine T17_2 hh ⟨by omega, by omega, ?_⟩
    rw [if_neg (by omega)]
    have ek : ((k : Nat) : Int).toNat = k := by omega
    have a1 := hq.tp37 (i := k) (by omega)
    have a2 := hq2.tp165 (i := k) (by omega)
    rw [ek]
    refine ⟨by omega, q k, hq.1 k (by omega), a1.1, q2 k, hq2.1 k (by omega), a2.1, ?_⟩
    refine K24 hh a1.1 a2.1 (by omega) (fun F' k1 k2 => ⟨_, rfl, rfl, ?_⟩)
    refine L17 hh hq hq2 hp H m (k + 1) F' (by omega) (fun i hi => ?_) (fun p hp => by rw [k2 p (by omega), h2 p hp])
    by_cases qk : i = k
    · rw [qk]
      exact k1 _ ((hp.2.2 k (by omega)).cong (fun x hx hx2 => h2 x (by omega)))
    · have b := hq.tp37 (i := i) (by omega)
      have hs := tp_sep b.1 a1.1 (fun e => qk (hq.2.2 i k (by omega) (by omega) e))
      exact (h1 i (by omega)).cong (fun x hx hx2 => k2 x (by omega))
theorem K17 (hh : RfH h) {q q2 : Nat → Nat} {n : Nat} {R : Nat → Row} (hq : Ysth h 37 q) (hq2 : Ysth h 165 q2) (hp : Ypast F 165 q2 n R) (H : ∀ F' : Nat → Nat → Int, Ypast F' 37 q n R → (∀ p, ¬ (37 ≤ p ∧ p < 147) → F' p = F p) → Q none (Wd S L F' G h)) : C17_0 (Wd S L F G h) Q :=
  T17_0 hh (L17 hh hq hq2 hp H n 0 F (by omega) (fun i hi => absurd hi (Nat.not_lt_zero i)) (fun p hp => rfl))
theorem L17b (hh : RfH h) {q q2 : Nat → Nat} {n : Nat} {R : Nat → Row} (hq : Ysth h 165 q) (hq2 : Ysth h 37 q2) (hp : Ypast F 37 q2 n R) (H : ∀ F' : Nat → Nat → Int, Ypast F' 165 q n R → (∀ p, ¬ (165 ≤ p ∧ p < 275) → F' p = F p) → Q none (Wd S L F' G h)) :
    ∀ (m k : Nat) (F1 : Nat → Nat → Int), k + m = n → (∀ i, i < k → Ytk F1 (q i) (R i)) → (∀ p, ¬ (165 ≤ p ∧ p < 275) → F1 p = F p) → C17b_2 (k : Int) (Wd S L F1 G h) Q
  | 0, k, F1, e, h1, h2 => by
    have e0 : F1 37 1 = (n : Int) := by rw [h2 37 (by omega)]; exact hp.1
    have hn := hp.2.1
    refine T17b_2 hh ⟨by omega, by omega, ?_⟩
    rw [if_pos (by omega)]
    refine H _ ⟨by rw [up_at, if_pos rfl]; exact e0, hn, fun i hi => ?_⟩ (fun p hp => by rw [up_out (by omega), h2 p hp])
    have hi2 := hq.tp165 (i := i) (by omega)
    exact (h1 i (by omega)).cong (fun x hx _ => up_out (by omega))
  | m + 1, k, F1, e, h1, h2 => by
    have e0 : F1 37 1 = (n : Int) := by rw [h2 37 (by omega)]; exact hp.1
    have hn := hp.2.1
    refine T17b_2 hh ⟨by omega, by omega, ?_⟩
    rw [if_neg (by omega)]
    have ek : ((k : Nat) : Int).toNat = k := by omega
    have a1 := hq.tp165 (i := k) (by omega)
    have a2 := hq2.tp37 (i := k) (by omega)
    rw [ek]
    refine ⟨by omega, q k, hq.1 k (by omega), a1.1, q2 k, hq2.1 k (by omega), a2.1, ?_⟩
    refine K24 hh a1.1 a2.1 (by omega) (fun F' k1 k2 => ⟨_, rfl, rfl, ?_⟩)
    refine L17b hh hq hq2 hp H m (k + 1) F' (by omega) (fun i hi => ?_) (fun p hp => by rw [k2 p (by omega), h2 p hp])
    by_cases qk : i = k
    · rw [qk]
      exact k1 _ ((hp.2.2 k (by omega)).cong (fun x hx hx2 => h2 x (by omega)))
    · have b := hq.tp165 (i := i) (by omega)
      have hs := tp_sep b.1 a1.1 (fun e => qk (hq.2.2 i k (by omega) (by omega) e))
      exact (h1 i (by omega)).cong (fun x hx hx2 => k2 x (by omega))
theorem K17b (hh : RfH h) {q q2 : Nat → Nat} {n : Nat} {R : Nat → Row} (hq : Ysth h 165 q) (hq2 : Ysth h 37 q2) (hp : Ypast F 37 q2 n R) (H : ∀ F' : Nat → Nat → Int, Ypast F' 165 q n R → (∀ p, ¬ (165 ≤ p ∧ p < 275) → F' p = F p) → Q none (Wd S L F' G h)) : C17b_0 (Wd S L F G h) Q :=
  T17b_0 hh (L17b hh hq hq2 hp H n 0 F (by omega) (fun i hi => absurd hi (Nat.not_lt_zero i)) (fun p hp => rfl))
theorem L187 (hh : RfH h) {a : Nat} (ha : a < 6) (e2 : F 297 2 = (a : Int)) (H : ∀ F' : Nat → Nat → Int, (∀ k, k < 134 → F' 298 k = F 299 (134 * a + k)) → (∀ p, p ≠ 298 → F' p = F p) → Q (some (vi (a : Int))) (Wd S L F' G h)) :
    ∀ (m k : Nat) (F1 : Nat → Nat → Int), k + m = 134 → (∀ j, j < k → F1 298 j = F 299 (134 * a + j)) → (∀ p, p ≠ 298 → F1 p = F p) → C187_22 (k : Int) (Wd S L F1 G h) Q
  | 0, k, F1, e, h1, h2 => by
    refine T187_22 hh ⟨by omega, ?_⟩
    rw [if_pos (by omega)]
    have e3 : F1 297 2 = (a : Int) := by rw [h2 297 (by omega)]; exact e2
    rw [e3]
    exact H F1 (fun j hj => h1 j (by omega)) h2
  | m + 1, k, F1, e, h1, h2 => by
    refine T187_22 hh ⟨by omega, ?_⟩
    rw [if_neg (by omega)]
    have e3 : F1 297 2 = (a : Int) := by rw [h2 297 (by omega)]; exact e2
    rw [e3]
    refine ⟨by omega, by omega, ?_⟩
    have ek : ((k : Nat) : Int).toNat = k := by omega
    have ej : (134 * (a : Int) + (k : Int)).toNat = 134 * a + k := by omega
    rw [ek, ej]
    refine L187 hh ha e2 H m (k + 1) _ (by omega) (fun j hj => ?_) (fun p hp => ?_)
    · rw [up_at]
      by_cases q : j = k
      · rw [if_pos q, h2 299 (by omega), q]
      · rw [if_neg q, h1 j (by omega)]
    · rw [up_out hp, h2 p hp]
theorem K187 (hh : RfH h) {n : Nat} (hn : n + 1 ≤ 6) (e2 : F 297 2 = ((n + 1 : Nat) : Int)) (H : ∀ F' : Nat → Nat → Int, (∀ k, k < 134 → F' 298 k = mR F 299 n k) → F' 297 2 = (n : Int) → (∀ k, k ≠ 2 → F' 297 k = F 297 k) → (∀ p, p ≠ 297 → p ≠ 298 → F' p = F p) → Q (some (vi (n : Int))) (Wd S L F' G h)) : C187_0 (Wd S L F G h) Q := by
  refine T187_0 hh ⟨by omega, ?_⟩
  rw [if_neg (by omega)]
  have e3 : F 297 2 - 1 = (n : Int) := by omega
  rw [e3]
  refine L187 (F := am_up F 297 2 (n : Int)) (a := n) hh (by omega) (by rw [up_at, if_pos rfl]) (fun F' k1 k2 => ?_) 134 0 _ (by omega) (fun j hj => absurd hj (Nat.not_lt_zero j)) (fun p hp => rfl)
  refine H F' (fun k hk => ?_) ?_ (fun k hk => ?_) (fun p h1 h2 => ?_)
  · rw [k1 k hk, up_out (by omega)]; rfl
  · rw [k2 297 (by omega), up_at, if_pos rfl]
  · rw [k2 297 (by omega), up_at, if_neg hk]
  · rw [k2 p h2, up_out h1]
theorem L189a (hh : RfH h) (H : ∀ F' : Nat → Nat → Int, (∀ k, k < 134 → F' 300 k = F 298 k) → (∀ p, p ≠ 300 → F' p = F p) → C189_29 0 (Wd S L F' G h) Q) :
    ∀ (m k : Nat) (F1 : Nat → Nat → Int), k + m = 134 → (∀ j, j < k → F1 300 j = F 298 j) → (∀ p, p ≠ 300 → F1 p = F p) → C189_2 (k : Int) (Wd S L F1 G h) Q
  | 0, k, F1, e, h1, h2 => by
    refine T189_2 hh ⟨by omega, ?_⟩
    rw [if_pos (by omega)]
    exact H F1 (fun j hj => h1 j (by omega)) h2
  | m + 1, k, F1, e, h1, h2 => by
    refine T189_2 hh ⟨by omega, ?_⟩
    rw [if_neg (by omega)]
    refine ⟨by omega, ?_⟩
    have ek : ((k : Nat) : Int).toNat = k := by omega
    rw [ek]
    refine L189a hh H m (k + 1) _ (by omega) (fun j hj => ?_) (fun p hp => ?_)
    · rw [up_at]
      by_cases q : j = k
      · rw [if_pos q, h2 298 (by omega), q]
      · rw [if_neg q, h1 j (by omega)]
    · rw [up_out hp, h2 p hp]
theorem L189b (hh : RfH h) (H : ∀ F' : Nat → Nat → Int, (∀ k, k < 804 → F' 301 k = F 299 k) → (∀ p, p ≠ 301 → F' p = F p) → Q (some (vi 1)) (Wd S L (am_up F' 297 5 (F' 297 2)) G h)) :
    ∀ (m k : Nat) (F1 : Nat → Nat → Int), k + m = 804 → (∀ j, j < k → F1 301 j = F 299 j) → (∀ p, p ≠ 301 → F1 p = F p) → C189_29 (k : Int) (Wd S L F1 G h) Q
  | 0, k, F1, e, h1, h2 => by
    refine T189_29 hh ⟨by omega, ?_⟩
    rw [if_pos (by omega)]
    exact H F1 (fun j hj => h1 j (by omega)) h2
  | m + 1, k, F1, e, h1, h2 => by
    refine T189_29 hh ⟨by omega, ?_⟩
    rw [if_neg (by omega)]
    refine ⟨by omega, ?_⟩
    have ek : ((k : Nat) : Int).toNat = k := by omega
    rw [ek]
    refine L189b hh H m (k + 1) _ (by omega) (fun j hj => ?_) (fun p hp => ?_)
    · rw [up_at]
      by_cases q : j = k
      · rw [if_pos q, h2 299 (by omega), q]
      · rw [if_neg q, h1 j (by omega)]
    · rw [up_out hp, h2 p hp]
theorem L190a (hh : RfH h) (H : ∀ F' : Nat → Nat → Int, (∀ k, k < 134 → F' 298 k = F 300 k) → (∀ p, p ≠ 298 → F' p = F p) → C190_39 0 (Wd S L F' G h) Q) :
    ∀ (m k : Nat) (F1 : Nat → Nat → Int), k + m = 134 → (∀ j, j < k → F1 298 j = F 300 j) → (∀ p, p ≠ 298 → F1 p = F p) → C190_12 (k : Int) (Wd S L F1 G h) Q
  | 0, k, F1, e, h1, h2 => by
    refine T190_12 hh ⟨by omega, ?_⟩
    rw [if_pos (by omega)]
    exact H F1 (fun j hj => h1 j (by omega)) h2
  | m + 1, k, F1, e, h1, h2 => by
    refine T190_12 hh ⟨by omega, ?_⟩
    rw [if_neg (by omega)]
    refine ⟨by omega, ?_⟩
    have ek : ((k : Nat) : Int).toNat = k := by omega
    rw [ek]
    refine L190a hh H m (k + 1) _ (by omega) (fun j hj => ?_) (fun p hp => ?_)
    · rw [up_at]
      by_cases q : j = k
      · rw [if_pos q, h2 300 (by omega), q]
      · rw [if_neg q, h1 j (by omega)]
    · rw [up_out hp, h2 p hp]
theorem L190b (hh : RfH h) (H : ∀ F' : Nat → Nat → Int, (∀ k, k < 804 → F' 299 k = F 301 k) → (∀ p, p ≠ 299 → F' p = F p) → Q (some (vi 1)) (Wd S L (am_up F' 297 2 (F' 297 5)) G h)) :
    ∀ (m k : Nat) (F1 : Nat → Nat → Int), k + m = 804 → (∀ j, j < k → F1 299 j = F 301 j) → (∀ p, p ≠ 299 → F1 p = F p) → C190_39 (k : Int) (Wd S L F1 G h) Q
  | 0, k, F1, e, h1, h2 => by
    refine T190_39 hh ⟨by omega, ?_⟩
    rw [if_pos (by omega)]
    exact H F1 (fun j hj => h1 j (by omega)) h2
  | m + 1, k, F1, e, h1, h2 => by
    refine T190_39 hh ⟨by omega, ?_⟩
    rw [if_neg (by omega)]
    refine ⟨by omega, ?_⟩
    have ek : ((k : Nat) : Int).toNat = k := by omega
    rw [ek]
    refine L190b hh H m (k + 1) _ (by omega) (fun j hj => ?_) (fun p hp => ?_)
    · rw [up_at]
      by_cases q : j = k
      · rw [if_pos q, h2 301 (by omega), q]
      · rw [if_neg q, h1 j (by omega)]
    · rw [up_out hp, h2 p hp]
theorem K189 (hh : RfH h) (H : ∀ F' : Nat → Nat → Int, (∀ k, k < 134 → F' 300 k = F 298 k) → (∀ k, k < 804 → F' 301 k = F 299 k) → F' 297 5 = F 297 2 → (∀ k, k ≠ 5 → F' 297 k = F 297 k) → (∀ p, p ≠ 297 → p ≠ 300 → p ≠ 301 → F' p = F p) → Q (some (vi 1)) (Wd S L F' G h)) : C189_0 (Wd S L F G h) Q := by
  refine T189_0 hh (L189a hh (fun F1 a1 a2 => L189b hh (fun F2 b1 b2 => ?_) 804 0 F1 (by omega) (fun j hj => absurd hj (Nat.not_lt_zero j)) (fun p hp => rfl)) 134 0 F (by omega) (fun j hj => absurd hj (Nat.not_lt_zero j)) (fun p hp => rfl))
  have e : F2 297 = F 297 := by rw [b2 297 (by omega), a2 297 (by omega)]
  refine H _ (fun k hk => ?_) (fun k hk => ?_) ?_ (fun k hk => ?_) (fun p h1 h2 h3 => ?_)
  · rw [up_out (by omega), b2 300 (by omega), a1 k hk]
  · rw [up_out (by omega), b1 k hk, a2 299 (by omega)]
  · rw [up_at, if_pos rfl, e]
  · rw [up_at, if_neg hk, e]
  · rw [up_out h1, b2 p h3, a2 p h2]
theorem K190 (hh : RfH h) (hi : 0 ≤ F 297 5 ∧ F 297 5 ≤ 6) (H : ∀ F' : Nat → Nat → Int, (∀ k, k < 134 → F' 298 k = F 300 k) → (∀ k, k < 804 → F' 299 k = F 301 k) → F' 297 2 = F 297 5 → (∀ k, k ≠ 2 → F' 297 k = F 297 k) → (∀ p, p ≠ 297 → p ≠ 298 → p ≠ 299 → F' p = F p) → Q (some (vi 1)) (Wd S L F' G h)) : C190_0 (Wd S L F G h) Q := by
  refine T190_0 hh ⟨by omega, ?_⟩
  rw [if_pos hi.1]
  refine L190a hh (fun F1 a1 a2 => L190b hh (fun F2 b1 b2 => ?_) 804 0 F1 (by omega) (fun j hj => absurd hj (Nat.not_lt_zero j)) (fun p hp => rfl)) 134 0 F (by omega) (fun j hj => absurd hj (Nat.not_lt_zero j)) (fun p hp => rfl)
  have e : F2 297 = F 297 := by rw [b2 297 (by omega), a2 297 (by omega)]
  refine H _ (fun k hk => ?_) (fun k hk => ?_) ?_ (fun k hk => ?_) (fun p h1 h2 h3 => ?_)
  · rw [up_out (by omega), b2 298 (by omega), a1 k hk]
  · rw [up_out (by omega), b1 k hk, a2 301 (by omega)]
  · rw [up_at, if_pos rfl, e]
  · rw [up_at, if_neg hk, e]
  · rw [up_out h1, b2 p h3, a2 p h2]
theorem K190n (hh : RfH h) (hi : F 297 5 = -1) (H : Q (some (vi (-4))) (Wd S L F G h)) : C190_0 (Wd S L F G h) Q := by
  refine T190_0 hh ⟨by omega, ?_⟩
  rw [if_neg (by omega)]
  exact H
end PAST2
