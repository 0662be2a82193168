/-! sheets -/
section SHEETS
variable {S L : Nat} {F G : Nat → Nat → Int} {h : Nat → Nat → Option Nat} {Q : Option V2 → W2 → Prop}
theorem r32_toInt (x : Int32) : R32 x.toInt := ⟨by have := Int32.le_toInt x; omega, by have := Int32.toInt_lt x; omega⟩
theorem r64_toInt (x : Int64) : R64 x.toInt := ⟨by have := Int64.le_toInt x; omega, by have := Int64.toInt_lt x; omega⟩
def sCut (l v : Int) : Int := if l = 0 then ((Int32.ofInt ((Int64.ofInt v).toInt32.toInt)).toInt8.toInt32.toInt) else if l = 1 then ((Int32.ofInt ((Int64.ofInt v).toInt32.toInt)).toInt16.toInt32.toInt) else if l = 2 then ((Int64.ofInt v).toInt32.toInt) else v
theorem R64_sCut {l v : Int} (h : R64 v) : R64 (sCut l v) := by
  unfold sCut
  repeat' split
  · exact r64 (r32_toInt _)
  · exact r64 (r32_toInt _)
  · exact r64 (r32_toInt _)
  · exact h
/-! drop -/
theorem L19 (hh : RfH h) {p : Nat} (sp : YSP p) (H : ∀ G' : Nat → Nat → Int, (∀ k, k < 24 → G' (p + 1) k = 0) → (∀ q, q ≠ p + 1 → G' q = G q) → Q none (Wd S L F G' h)) :
    ∀ (m k : Nat) (G1 : Nat → Nat → Int), k + m = 24 → (∀ j, j < k → G1 (p + 1) j = 0) → (∀ q, q ≠ p + 1 → G1 q = G q) → C19_17 p (k : Int) (Wd S L F G1 h) Q
  | 0, k, G1, e, h1, h2 => by
    refine T19_17 hh sp ⟨by omega, ?_⟩
    rw [if_pos (by omega)]
    exact H G1 (fun j hj => h1 j (by omega)) h2
  | m + 1, k, G1, e, h1, h2 => by
    refine T19_17 hh sp ⟨by omega, ?_⟩
    rw [if_neg (by omega)]
    refine ⟨by omega, ?_⟩
    have ek : ((k : Nat) : Int).toNat = k := by omega
    rw [ek]
    refine L19 hh sp H m (k + 1) _ (by omega) (fun j hj => ?_) (fun q hq => by rw [up_out hq, h2 q hq])
    rw [up_at]
    split
    · rfl
    · exact h1 j (by omega)
def sSheet (s l n : Int) : Int := if 0 ≤ s ∧ s ≤ 3 ∧ 0 ≤ l ∧ l ≤ 3 ∧ n ≤ 24 then (if 0 ≤ n then n else -14) else -1
theorem R32_sSheet (s l n : Int) : R32 (sSheet s l n) := by
  unfold sSheet
  repeat' split
  all_goals first | omega | decide
theorem K94 (hh : RfH h) {s l n : Int} (rs : R32 s) (rl : R32 l) (rn : R32 n) (Hb : ¬ (0 ≤ s ∧ s ≤ 3 ∧ 0 ≤ l ∧ l ≤ 3 ∧ 0 ≤ n ∧ n ≤ 24) → Q (some (vi (sSheet s l n))) (Wd S L F G h))
    (H : 0 ≤ s ∧ s ≤ 3 ∧ 0 ≤ l ∧ l ≤ 3 ∧ 0 ≤ n ∧ n ≤ 24 → ∀ G' : Nat → Nat → Int, (∀ k, k < 24 → G' (290 + 2 * s.toNat) k = 0) → (∀ q, q ≠ 290 + 2 * s.toNat → G' q = G q) → Q (some (vi (sSheet s l n))) (Wd S L (am_up (am_up (am_up F (289 + 2 * s.toNat) 0 1) (289 + 2 * s.toNat) 1 l) (289 + 2 * s.toNat) 2 n) G' h)) : C94_0 s l n (Wd S L F G h) Q := by
  have bad : ¬ (0 ≤ s ∧ s ≤ 3 ∧ 0 ≤ l ∧ l ≤ 3 ∧ n ≤ 24) → Q (some (vi (-1))) (Wd S L F G h) := fun hb => by
    have e : sSheet s l n = -1 := by unfold sSheet; rw [if_neg hb]
    rw [e] at Hb
    exact Hb (by omega)
  refine T94_0 hh ⟨rs, ?_⟩
  split
  · exact bad (by omega)
  split
  · exact bad (by omega)
  refine ⟨rl, ?_⟩
  split
  · exact bad (by omega)
  split
  · exact bad (by omega)
  refine ⟨rn, ?_⟩
  split
  · split
    · have e : sSheet s l n = n := by unfold sSheet; rw [if_pos (by omega), if_pos (by omega)]
      rw [e] at H
      refine ⟨by omega, ?_⟩
      have sp : YSP (289 + 2 * s.toNat) := ⟨s.toNat, by omega, rfl⟩
      refine T19_0 hh sp (L19 (G := G) hh sp (fun G' g1 g2 => ⟨_, _, rfl, rfl, ?_⟩) 24 0 G (by omega) (fun j hj => absurd hj (Nat.not_lt_zero j)) (fun q hq => rfl))
      rw [show 289 + 2 * s.toNat + 1 = 290 + 2 * s.toNat by omega] at g1 g2
      exact H (by omega) G' g1 g2
    · have e : sSheet s l n = -14 := by unfold sSheet; rw [if_pos (by omega), if_neg (by omega)]
      rw [e] at Hb
      exact Hb (by omega)
  · exact bad (by omega)
theorem K20 (hh : RfH h) {p : Nat} (sp : YSP p) {i n : Int} (hl : 0 ≤ F p 2 ∧ F p 2 ≤ 24) (ri : R32 i) (rn : R32 n) (H : Q (some (vi (if 0 ≤ i ∧ 0 ≤ n ∧ i ≤ F p 2 ∧ n ≤ F p 2 - i then 1 else 0))) (Wd S L F G h)) : C20_0 p i n (Wd S L F G h) Q := by
  refine T20_0 hh sp ⟨ri, ?_⟩
  split
  · rw [if_neg (by omega)] at H; exact H
  refine ⟨rn, ?_⟩
  split
  · rw [if_neg (by omega)] at H; exact H
  refine ⟨by omega, ?_⟩
  split
  · rw [if_neg (by omega)] at H; exact H
  refine ⟨by omega, ?_⟩
  split
  · rw [if_neg (by omega)] at H; exact H
  · rw [if_pos (by omega)] at H; exact H
theorem K21 (hh : RfH h) {p : Nat} (sp : YSP p) {i v : Int} (hl : 0 ≤ F p 1 ∧ F p 1 ≤ 3) (hi : 0 ≤ i ∧ i < 24) (H : Q none (Wd S L F (am_up G (p + 1) i.toNat (sCut (F p 1) v)) h)) : C21_0 p i v (Wd S L F G h) Q := by
  unfold sCut at H
  refine T21_0 hh sp ⟨by omega, ?_⟩
  split
  · rename_i c
    rw [if_pos c] at H
    exact ⟨r32_toInt _, hi, H⟩
  rename_i c0
  rw [if_neg c0] at H
  split
  · rename_i c
    rw [if_pos c] at H
    exact ⟨r32_toInt _, hi, H⟩
  rename_i c1
  rw [if_neg c1] at H
  split
  · rename_i c
    rw [if_pos c] at H
    exact ⟨r32_toInt _, hi, H⟩
  · rename_i c2
    rw [if_neg c2] at H
    exact ⟨hi, H⟩
end SHEETS
