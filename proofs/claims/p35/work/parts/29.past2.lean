/-! the reference's past; undo, image, restore of both sides -/
section PAST2
variable {S L : Nat} {F G : Nat → Nat → Int} {h : Nat → Nat → Option Nat} {Q : Option V2 → W2 → Prop}
def mR (F : Nat → Nat → Int) (p : Nat) : Nat → Row := fun i k => F p (134 * i + k)
theorem K16 (hh : RfH h) {q : Nat → Nat} {n : Nat} {R : Nat → Row} (hq : Ysth h 37 q) (hp : Ypast F 37 q (n + 1) R) (H : ∀ F' : Nat → Nat → Int, Ytk F' 1 (R n) → Ypast F' 37 q n R → (∀ p, ¬ (1 ≤ p ∧ p < 19) → p ≠ 37 → F' p = F p) → Q none (Wd S L F' G h)) : C16_0 (Wd S L F G h) Q := by
  obtain ⟨hp0, hp6, hpR⟩ := hp
  have hn := hq.tp37 (i := n) (by omega)
  refine T16_0 hh ⟨by omega, ?_⟩
  rw [if_neg (by omega)]
  have en : (F 37 1 - 1).toNat = n := by omega
  refine ⟨by omega, q n, by rw [en]; exact hq.1 n (by omega), hn.1, ?_⟩
  refine K24 hh rfl hn.1 (by omega) (fun F' k1 k2 => ⟨_, rfl, rfl, ?_⟩)
  refine H F' (k1 _ ((hpR n (by omega)).cong (fun x hx hx2 => up_out (by omega)))) ⟨?_, by omega, fun i hi => ?_⟩ (fun p h1 h2 => ?_)
  · rw [k2 37 (by omega), up_at, if_pos rfl]; omega
  · have hi2 := hq.tp37 (i := i) (by omega)
    exact (hpR i (by omega)).cong (fun x hx hx2 => by rw [k2 x (by omega), up_out (by omega)])
  · rw [k2 p h1, up_out h2]
theorem L17 (hh : RfH h) {q q2 : Nat → Nat} {n : Nat} {R : Nat → Row} (hq : Ysth h 37 q) (hq2 : Ysth h 165 q2) (hp : Ypast F 165 q2 n R) (H : ∀ F' : Nat → Nat → Int, Ypast F' 37 q n R → (∀ p, ¬ (37 ≤ p ∧ p < 147) → F' p = F p) → Q none (Wd S L F' G h)) :
    ∀ (m k : Nat) (F1 : Nat → Nat → Int), k + m = n → (∀ i, i < k → Ytk F1 (q i) (R i)) → (∀ p, ¬ (37 ≤ p ∧ p < 147) → F1 p = F p) → C17_2 (k : Int) (Wd S L F1 G h) Q
  | 0, k, F1, e, h1, h2 => by
    have e0 : F1 165 1 = (n : Int) := by rw [h2 165 (by omega)]; exact hp.1
    have hn := hp.2.1
    refine T17_2 hh ⟨by omega, by omega, ?_⟩
    rw [if_pos (by omega)]
    refine H _ ⟨by rw [up_at, if_pos rfl]; exact e0, hn, fun i hi => ?_⟩ (fun p hp => by rw [up_out (by omega), h2 p hp])
    have hi2 := hq.tp37 (i := i) (by omega)
    exact (h1 i (by omega)).cong (fun x hx _ => up_out (by omega))
  | m + 1, k, F1, e, h1, h2 => by
    have e0 : F1 165 1 = (n : Int) := by rw [h2 165 (by omega)]; exact hp.1
    have hn := hp.2.1
    refine T17_2 hh ⟨by omega, by omega, ?_⟩
    rw [if_neg (by omega)]
    have ek : ((k : Nat) : Int).toNat = k := by omega
    have a1 := hq.tp37 (i := k) (by omega)
    have a2 := hq2.tp165 (i := k) (by omega)
    rw [ek]
    refine ⟨by omega, q k, hq.1 k (by omega), a1.1, q2 k, hq2.1 k (by omega), a2.1, ?_⟩
    refine K24 hh a1.1 a2.1 (by omega) (fun F' k1 k2 => ⟨_, rfl, rfl, ?_⟩)
    refine L17 hh hq hq2 hp H m (k + 1) F' (by omega) (fun i hi => ?_) (fun p hp => by rw [k2 p (by omega), h2 p hp])
    by_cases qk : i = k
    · rw [qk]
      exact k1 _ ((hp.2.2 k (by omega)).cong (fun x hx hx2 => h2 x (by omega)))
    · have b := hq.tp37 (i := i) (by omega)
      have hs := tp_sep b.1 a1.1 (fun e => qk (hq.2.2 i k (by omega) (by omega) e))
      exact (h1 i (by omega)).cong (fun x hx hx2 => k2 x (by omega))
theorem K17 (hh : RfH h) {q q2 : Nat → Nat} {n : Nat} {R : Nat → Row} (hq : Ysth h 37 q) (hq2 : Ysth h 165 q2) (hp : Ypast F 165 q2 n R) (H : ∀ F' : Nat → Nat → Int, Ypast F' 37 q n R → (∀ p, ¬ (37 ≤ p ∧ p < 147) → F' p = F p) → Q none (Wd S L F' G h)) : C17_0 (Wd S L F G h) Q :=
  T17_0 hh (L17 hh hq hq2 hp H n 0 F (by omega) (fun i hi => absurd hi (Nat.not_lt_zero i)) (fun p hp => rfl))
theorem L17b (hh : RfH h) {q q2 : Nat → Nat} {n : Nat} {R : Nat → Row} (hq : Ysth h 165 q) (hq2 : Ysth h 37 q2) (hp : Ypast F 37 q2 n R) (H : ∀ F' : Nat → Nat → Int, Ypast F' 165 q n R → (∀ p, ¬ (165 ≤ p ∧ p < 275) → F' p = F p) → Q none (Wd S L F' G h)) :
    ∀ (m k : Nat) (F1 : Nat → Nat → Int), k + m = n → (∀ i, i < k → Ytk F1 (q i) (R i)) → (∀ p, ¬ (165 ≤ p ∧ p < 275) → F1 p = F p) → C17b_2 (k : Int) (Wd S L F1 G h) Q
  | 0, k, F1, e, h1, h2 => by
    have e0 : F1 37 1 = (n : Int) := by rw [h2 37 (by omega)]; exact hp.1
    have hn := hp.2.1
    refine T17b_2 hh ⟨by omega, by omega, ?_⟩
    rw [if_pos (by omega)]
    refine H _ ⟨by rw [up_at, if_pos rfl]; exact e0, hn, fun i hi => ?_⟩ (fun p hp => by rw [up_out (by omega), h2 p hp])
    have hi2 := hq.tp165 (i := i) (by omega)
    exact (h1 i (by omega)).cong (fun x hx _ => up_out (by omega))
  | m + 1, k, F1, e, h1, h2 => by
    have e0 : F1 37 1 = (n : Int) := by rw [h2 37 (by omega)]; exact hp.1
    have hn := hp.2.1
    refine T17b_2 hh ⟨by omega, by omega, ?_⟩
    rw [if_neg (by omega)]
    have ek : ((k : Nat) : Int).toNat = k := by omega
    have a1 := hq.tp165 (i := k) (by omega)
    have a2 := hq2.tp37 (i := k) (by omega)
    rw [ek]
    refine ⟨by omega, q k, hq.1 k (by omega), a1.1, q2 k, hq2.1 k (by omega), a2.1, ?_⟩
    refine K24 hh a1.1 a2.1 (by omega) (fun F' k1 k2 => ⟨_, rfl, rfl, ?_⟩)
    refine L17b hh hq hq2 hp H m (k + 1) F' (by omega) (fun i hi => ?_) (fun p hp => by rw [k2 p (by omega), h2 p hp])
    by_cases qk : i = k
    · rw [qk]
      exact k1 _ ((hp.2.2 k (by omega)).cong (fun x hx hx2 => h2 x (by omega)))
    · have b := hq.tp165 (i := i) (by omega)
      have hs := tp_sep b.1 a1.1 (fun e => qk (hq.2.2 i k (by omega) (by omega) e))
      exact (h1 i (by omega)).cong (fun x hx hx2 => k2 x (by omega))
theorem K17b (hh : RfH h) {q q2 : Nat → Nat} {n : Nat} {R : Nat → Row} (hq : Ysth h 165 q) (hq2 : Ysth h 37 q2) (hp : Ypast F 37 q2 n R) (H : ∀ F' : Nat → Nat → Int, Ypast F' 165 q n R → (∀ p, ¬ (165 ≤ p ∧ p < 275) → F' p = F p) → Q none (Wd S L F' G h)) : C17b_0 (Wd S L F G h) Q :=
  T17b_0 hh (L17b hh hq hq2 hp H n 0 F (by omega) (fun i hi => absurd hi (Nat.not_lt_zero i)) (fun p hp => rfl))
end PAST2
