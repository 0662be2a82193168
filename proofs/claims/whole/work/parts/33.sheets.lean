/-! sheets -/
section SHEETS
variable {S L : Nat} {F G : Nat → Nat → Int} {h : Nat → Nat → Option Nat} {Q : Option V2 → W2 → Prop}
theorem r32_toInt (x : Int32) : R32 x.toInt := ⟨by have := Int32.le_toInt x; omega, by have := Int32.toInt_lt x; omega⟩
theorem r64_toInt (x : Int64) : R64 x.toInt := ⟨by have := Int64.le_toInt x; omega, by have := Int64.toInt_lt x; omega⟩
def sCut (l v : Int) : Int := if l = 0 then ((Int32.ofInt ((Int64.ofInt v).toInt32.toInt)).toInt8.toInt32.toInt) else if l = 1 then ((Int32.ofInt ((Int64.ofInt v).toInt32.toInt)).toInt16.toInt32.toInt) else if l = 2 then ((Int64.ofInt v).toInt32.toInt) else v
theorem R64_sCut {l v : Int} (h : R64 v) : R64 (sCut l v) := by
  unfold sCut
  repeat' split
  · exact r64 (r32_toInt _)
  · exact r64 (r32_toInt _)
  · exact r64 (r32_toInt _)
  · exact h
theorem Inv.sheet {xs : Nat → Int} (I : Inv F G h xs) {F' G' : Nat → Nat → Int} (e : ∀ p, ¬ (289 ≤ p ∧ p < 297) → p ≠ 303 → p ≠ 304 → F' p = F p) (c : Ysheet F' G') : Inv F' G' h xs := by
  obtain ⟨i0, ⟨n, i1, i1c⟩, i2, i3, i4, i5, i6⟩ := I
  have o7 : F' 297 = F 297 := e 297 (by decide) (by decide) (by decide)
  refine ⟨i0, ⟨n, by rw [o7]; exact i1, i1c.cong (fun p h1 h2 => e p (by omega) (by omega) (by omega)) (fun k hk => by rw [e 298 (by decide) (by decide) (by decide)]) (fun i hi k hk => by unfold mR; rw [e 299 (by decide) (by decide) (by decide)])⟩, ?_, ?_, c, ?_, i6⟩
  · rw [o7]
    exact i2.cong (by rw [e 0 (by decide) (by decide) (by decide)]) (fun p h1 h2 => e p (by omega) (by omega) (by omega)) rfl (fun k hk => by rw [e 300 (by decide) (by decide) (by decide)]) (fun i hi k hk => by unfold mR; rw [e 301 (by decide) (by decide) (by decide)])
  · exact i3.cong (by rw [o7]) (by rw [e 284 (by decide) (by decide) (by decide)]) (e 285 (by decide) (by decide) (by decide)) (e 302 (by decide) (by decide) (by decide))
  · intro k
    rw [e 9999 (by decide) (by decide) (by decide)]; exact i5 k
/-! drop -/
theorem O1055 {xs : Nat → Int} (I : Inv F G h xs) {x3 : Int} (hx : 0 ≤ x3 ∧ x3 + 6 ≤ (L : Int)) (hL : L ≤ 3072) (K : ∀ (F' G' : Nat → Nat → Int) (h' : Nat → Nat → Option Nat), Inv F' G' h' xs → C201_18 (x3 + 6) (Wd S L F' G' h') Q) : C201_1055 x3 (Wd S L F G h) Q := by
  have hh := I.1
  obtain ⟨t, v⟩ := I.row
  have hR : ∀ k, R32 (F 9999 k) := I.r32
  refine T201_1055 hh ⟨by omega, by omega, ?_⟩
  obtain ⟨s1, s2⟩ := I.2.2.2.2.1
  have ra := hR (x3 + 1).toNat
  generalize ha : F 9999 (x3 + 1).toNat = a at ra ⊢
  have bad : ∀ x, R32 x → C201_18 (x3 + 6) (Wd S L F G h) Q → (R32 x ∧ R32 x ∧ if x = x then C201_18 (x3 + 6) (Wd S L F G h) Q else Q (some (vi 0)) (Wd S L F G h)) := fun x hx k => ⟨hx, hx, by rw [if_pos rfl]; exact k⟩
  refine T95_0 hh ⟨ra, ?_⟩
  split
  · rename_i c
    refine ⟨_, _, rfl, rfl, ?_⟩
    rw [ha]
    refine T197_0 hh ⟨ra, ?_⟩
    rw [if_pos c]
    exact ⟨_, _, rfl, rfl, bad _ r32m1 (K F G h I)⟩
  rename_i c1
  split
  · rename_i c
    refine ⟨_, _, rfl, rfl, ?_⟩
    rw [ha]
    refine T197_0 hh ⟨ra, ?_⟩
    rw [if_neg c1, if_pos c]
    exact ⟨_, _, rfl, rfl, bad _ r32m1 (K F G h I)⟩
  rename_i c2
  refine ⟨by omega, ?_⟩
  have hs := s1 a.toNat (by omega)
  refine ⟨by omega, ?_⟩
  split
  · rename_i c3
    refine ⟨_, _, rfl, rfl, ?_⟩
    rw [ha]
    refine T197_0 hh ⟨ra, ?_⟩
    rw [if_neg c1, if_neg c2]
    refine ⟨by omega, by omega, ?_⟩
    rw [if_neg (by omega)]
    exact ⟨_, _, rfl, rfl, bad _ (by decide) (K F G h I)⟩
  · rename_i c3
    refine ⟨_, _, rfl, rfl, ?_⟩
    have e2 : am_up F (289 + 2 * a.toNat) 0 0 (289 + 2 * a.toNat) 2 = F 304 a.toNat := by
      rw [up_at, if_neg (by decide)]; omega
    have o : ∀ p, p ≠ 289 + 2 * a.toNat → am_up F (289 + 2 * a.toNat) 0 0 p = F p := fun p hp => up_out hp
    rw [o 9999 (by omega), ha, e2]
    refine T197_0 hh ⟨ra, ?_⟩
    rw [if_neg c1, if_neg c2, o 303 (by omega), o 304 (by omega)]
    refine ⟨by omega, by omega, ?_⟩
    rw [if_pos (by omega)]
    refine ⟨_, _, rfl, rfl, by omega, by omega, ?_⟩
    rw [if_pos rfl]
    refine K _ _ _ (I.sheet (fun p h1 h2 h3 => by rw [up_out h2, o p (by omega)]) ⟨fun s hs4 => ?_, s2⟩)
    have e303 : ∀ k, am_up (am_up F (289 + 2 * a.toNat) 0 0) 303 a.toNat (-1) 303 k = if k = a.toNat then -1 else F 303 k := fun k => by rw [up_at, o 303 (by omega)]
    have e304 : am_up (am_up F (289 + 2 * a.toNat) 0 0) 303 a.toNat (-1) 304 = F 304 := by rw [up_out (by decide), o 304 (by omega)]
    rw [e303, e304]
    by_cases q : s = a.toNat
    · subst q
      left
      rw [if_pos rfl, up_out (by omega), up_at, if_pos rfl]
      exact ⟨rfl, rfl⟩
    · rw [if_neg q]
      have := s1 s hs4
      rw [up_out (by omega), o (289 + 2 * s) (by omega)]
      exact this
theorem L19 (hh : RfH h) {p : Nat} (sp : YSP p) (H : ∀ G' : Nat → Nat → Int, (∀ k, k < 24 → G' (p + 1) k = 0) → (∀ q, q ≠ p + 1 → G' q = G q) → Q none (Wd S L F G' h)) :
    ∀ (m k : Nat) (G1 : Nat → Nat → Int), k + m = 24 → (∀ j, j < k → G1 (p + 1) j = 0) → (∀ q, q ≠ p + 1 → G1 q = G q) → C19_17 p (k : Int) (Wd S L F G1 h) Q
  | 0, k, G1, e, h1, h2 => by
    refine T19_17 hh sp ⟨by omega, ?_⟩
    rw [if_pos (by omega)]
    exact H G1 (fun j hj => h1 j (by omega)) h2
  | m + 1, k, G1, e, h1, h2 => by
    refine T19_17 hh sp ⟨by omega, ?_⟩
    rw [if_neg (by omega)]
    refine ⟨by omega, ?_⟩
    have ek : ((k : Nat) : Int).toNat = k := by omega
    rw [ek]
    refine L19 hh sp H m (k + 1) _ (by omega) (fun j hj => ?_) (fun q hq => by rw [up_out hq, h2 q hq])
    rw [up_at]
    split
    · rfl
    · exact h1 j (by omega)
theorem L196 (hh : RfH h) {s : Nat} (hs : s < 4) {n : Int} (H : ∀ G' : Nat → Nat → Int, (∀ k, G' 305 k = if 24 * s ≤ k ∧ k < 24 * s + 24 then 0 else G 305 k) → (∀ q, q ≠ 305 → G' q = G q) → Q (some (vi n)) (Wd S L F G' h)) :
    ∀ (m k : Nat) (G1 : Nat → Nat → Int), k + m = 24 → (∀ j, G1 305 j = if 24 * s ≤ j ∧ j < 24 * s + k then 0 else G 305 j) → (∀ q, q ≠ 305 → G1 q = G q) → C196_51 (s : Int) n (k : Int) (Wd S L F G1 h) Q
  | 0, k, G1, e, h1, h2 => by
    refine T196_51 hh ⟨by omega, ?_⟩
    rw [if_pos (by omega)]
    have : k = 24 := by omega
    subst this
    exact H G1 h1 h2
  | m + 1, k, G1, e, h1, h2 => by
    refine T196_51 hh ⟨by omega, ?_⟩
    rw [if_neg (by omega)]
    refine ⟨by omega, ?_⟩
    have ek : (24 * (s : Int) + (k : Int)).toNat = 24 * s + k := by omega
    rw [ek]
    refine L196 hh hs H m (k + 1) _ (by omega) (fun j => ?_) (fun q hq => by rw [up_out hq, h2 q hq])
    rw [up_at]
    by_cases q : j = 24 * s + k
    · rw [if_pos q, if_pos (by omega)]
    · rw [if_neg q, h1 j]
      by_cases q2 : 24 * s ≤ j ∧ j < 24 * s + k
      · rw [if_pos q2, if_pos (by omega)]
      · rw [if_neg q2, if_neg (by omega)]
def sSheet (s l n : Int) : Int := if 0 ≤ s ∧ s ≤ 3 ∧ 0 ≤ l ∧ l ≤ 3 ∧ n ≤ 24 then (if 0 ≤ n then n else -14) else -1
theorem R32_sSheet (s l n : Int) : R32 (sSheet s l n) := by
  unfold sSheet
  repeat' split
  all_goals first | omega | decide
theorem K94 (hh : RfH h) {s l n : Int} (rs : R32 s) (rl : R32 l) (rn : R32 n) (Hb : ¬ (0 ≤ s ∧ s ≤ 3 ∧ 0 ≤ l ∧ l ≤ 3 ∧ 0 ≤ n ∧ n ≤ 24) → Q (some (vi (sSheet s l n))) (Wd S L F G h))
    (H : 0 ≤ s ∧ s ≤ 3 ∧ 0 ≤ l ∧ l ≤ 3 ∧ 0 ≤ n ∧ n ≤ 24 → ∀ G' : Nat → Nat → Int, (∀ k, k < 24 → G' (290 + 2 * s.toNat) k = 0) → (∀ q, q ≠ 290 + 2 * s.toNat → G' q = G q) → Q (some (vi (sSheet s l n))) (Wd S L (am_up (am_up (am_up F (289 + 2 * s.toNat) 0 1) (289 + 2 * s.toNat) 1 l) (289 + 2 * s.toNat) 2 n) G' h)) : C94_0 s l n (Wd S L F G h) Q := by
  have bad : ¬ (0 ≤ s ∧ s ≤ 3 ∧ 0 ≤ l ∧ l ≤ 3 ∧ n ≤ 24) → Q (some (vi (-1))) (Wd S L F G h) := fun hb => by
    have e : sSheet s l n = -1 := by unfold sSheet; rw [if_neg hb]
    rw [e] at Hb
    exact Hb (by omega)
  refine T94_0 hh ⟨rs, ?_⟩
  split
  · exact bad (by omega)
  split
  · exact bad (by omega)
  refine ⟨rl, ?_⟩
  split
  · exact bad (by omega)
  split
  · exact bad (by omega)
  refine ⟨rn, ?_⟩
  split
  · split
    · have e : sSheet s l n = n := by unfold sSheet; rw [if_pos (by omega), if_pos (by omega)]
      rw [e] at H
      refine ⟨by omega, ?_⟩
      have sp : YSP (289 + 2 * s.toNat) := ⟨s.toNat, by omega, rfl⟩
      refine T19_0 hh sp (L19 (G := G) hh sp (fun G' g1 g2 => ⟨_, _, rfl, rfl, ?_⟩) 24 0 G (by omega) (fun j hj => absurd hj (Nat.not_lt_zero j)) (fun q hq => rfl))
      rw [show 289 + 2 * s.toNat + 1 = 290 + 2 * s.toNat by omega] at g1 g2
      exact H (by omega) G' g1 g2
    · have e : sSheet s l n = -14 := by unfold sSheet; rw [if_pos (by omega), if_neg (by omega)]
      rw [e] at Hb
      exact Hb (by omega)
  · exact bad (by omega)
theorem K196 (hh : RfH h) {s l n : Int} (rs : R32 s) (rl : R32 l) (rn : R32 n) (Hb : ¬ (0 ≤ s ∧ s ≤ 3 ∧ 0 ≤ l ∧ l ≤ 3 ∧ 0 ≤ n ∧ n ≤ 24) → Q (some (vi (sSheet s l n))) (Wd S L F G h))
    (H : 0 ≤ s ∧ s ≤ 3 ∧ 0 ≤ l ∧ l ≤ 3 ∧ 0 ≤ n ∧ n ≤ 24 → ∀ G' : Nat → Nat → Int, (∀ k, G' 305 k = if 24 * s.toNat ≤ k ∧ k < 24 * s.toNat + 24 then 0 else G 305 k) → (∀ q, q ≠ 305 → G' q = G q) → Q (some (vi (sSheet s l n))) (Wd S L (am_up (am_up F 303 s.toNat l) 304 s.toNat n) G' h)) : C196_0 s l n (Wd S L F G h) Q := by
  have bad : ¬ (0 ≤ s ∧ s ≤ 3 ∧ 0 ≤ l ∧ l ≤ 3 ∧ n ≤ 24) → Q (some (vi (-1))) (Wd S L F G h) := fun hb => by
    have e : sSheet s l n = -1 := by unfold sSheet; rw [if_neg hb]
    rw [e] at Hb
    exact Hb (by omega)
  refine T196_0 hh ⟨rs, ?_⟩
  split
  · exact bad (by omega)
  split
  · exact bad (by omega)
  refine ⟨rl, ?_⟩
  split
  · exact bad (by omega)
  split
  · exact bad (by omega)
  refine ⟨rn, ?_⟩
  split
  · split
    · have e : sSheet s l n = n := by unfold sSheet; rw [if_pos (by omega), if_pos (by omega)]
      rw [e] at H
      refine ⟨by omega, ?_⟩
      have := L196 (F := am_up (am_up F 303 s.toNat l) 304 s.toNat n) (G := G) (S := S) (L := L) (Q := Q) hh (s := s.toNat) (by omega) (n := n) (fun G' g1 g2 => H (by omega) G' g1 g2) 24 0 G (by omega) (fun j => by rw [if_neg (by omega)]) (fun q hq => rfl)
      rw [show ((s.toNat : Nat) : Int) = s by omega] at this
      exact this
    · have e : sSheet s l n = -14 := by unfold sSheet; rw [if_pos (by omega), if_neg (by omega)]
      rw [e] at Hb
      exact Hb (by omega)
  · exact bad (by omega)
theorem O1012 {xs : Nat → Int} (I : Inv F G h xs) {x3 : Int} (hx : 0 ≤ x3 ∧ x3 + 6 ≤ (L : Int)) (hL : L ≤ 3072) (K : ∀ (F' G' : Nat → Nat → Int) (h' : Nat → Nat → Option Nat), Inv F' G' h' xs → C201_18 (x3 + 6) (Wd S L F' G' h') Q) : C201_1012 x3 (Wd S L F G h) Q := by
  have hh := I.1
  obtain ⟨t, v⟩ := I.row
  have hR : ∀ k, R32 (F 9999 k) := I.r32
  refine T201_1012 hh ⟨by omega, by omega, by omega, by omega, by omega, by omega, ?_⟩
  obtain ⟨s1, s2⟩ := I.2.2.2.2.1
  have ra := hR (x3 + 1).toNat
  have rb := hR (x3 + 2).toNat
  have rc := hR (x3 + 3).toNat
  generalize ha : F 9999 (x3 + 1).toNat = a at ra ⊢
  generalize hb : F 9999 (x3 + 2).toNat = b at rb ⊢
  generalize hc : F 9999 (x3 + 3).toNat = c at rc ⊢
  refine K94 hh ra rb rc (fun hn => ⟨_, _, _, rfl, rfl, ?_⟩) (fun ok G1 g1 g2 => ⟨_, _, _, rfl, rfl, ?_⟩)
  · rw [ha, hb, hc]
    refine K196 hh ra rb rc (fun _ => ⟨_, _, _, rfl, rfl, R32_sSheet _ _ _, R32_sSheet _ _ _, ?_⟩) (fun ok => absurd ok hn)
    rw [if_pos rfl]
    exact K F G h I
  · generalize hF1 : am_up (am_up (am_up F (289 + 2 * a.toNat) 0 1) (289 + 2 * a.toNat) 1 b) (289 + 2 * a.toNat) 2 c = F1
    have o : ∀ p, p ≠ 289 + 2 * a.toNat → F1 p = F p := fun p hp => by rw [← hF1, up_out hp, up_out hp, up_out hp]
    rw [o 9999 (by omega), ha, hb, hc]
    refine K196 hh ra rb rc (fun hn => absurd ok hn) (fun _ G2 k1 k2 => ⟨_, _, _, rfl, rfl, R32_sSheet _ _ _, R32_sSheet _ _ _, ?_⟩)
    rw [if_pos rfl]
    refine K _ _ _ (I.sheet (fun p h1 h2 h3 => by rw [up_out h3, up_out h2, o p (by omega)]) ⟨fun s hs4 => ?_, fun s hs4 k hk => ?_⟩)
    · have e303 : ∀ k, am_up (am_up F1 303 a.toNat b) 304 a.toNat c 303 k = if k = a.toNat then b else F 303 k := fun k => by rw [up_out (by decide), up_at, o 303 (by omega)]
      have e304 : ∀ k, am_up (am_up F1 303 a.toNat b) 304 a.toNat c 304 k = if k = a.toNat then c else F 304 k := fun k => by rw [up_at, up_out (by decide), o 304 (by omega)]
      have eF : am_up (am_up F1 303 a.toNat b) 304 a.toNat c (289 + 2 * s) = F1 (289 + 2 * s) := by rw [up_out (by omega), up_out (by omega)]
      rw [e303, e304, eF]
      by_cases q : s = a.toNat
      · subst q
        right
        rw [if_pos rfl, if_pos rfl, ← hF1, up_at, up_at, up_at, up_at, up_at, up_at, up_at, up_at, up_at]
        refine ⟨rfl, rfl, by omega, by omega, rfl, by omega, by omega⟩
      · rw [if_neg q, if_neg q, o _ (by omega)]
        exact s1 s hs4
    · rw [k2 _ (by omega), k1]
      by_cases q : s = a.toNat
      · subst q
        rw [if_pos (by omega), g1 k hk]
        exact ⟨rfl, by decide⟩
      · rw [if_neg (by omega), g2 (290 + 2 * s) (by omega), g2 305 (by omega)]
        exact s2 s hs4 k hk
def sRow (F : Nat → Nat → Int) (s l : Int) : Int := if 0 ≤ s ∧ s ≤ 3 ∧ 0 ≤ l ∧ l ≤ 3 then (if F 303 s.toNat = -1 then -11 else if F 303 s.toNat = l then 0 else -12) else -1
def sFound (F : Nat → Nat → Int) (s l i n : Int) : Int := if F 303 s.toNat = -1 then -11 else if F 303 s.toNat = l then (if 0 ≤ i ∧ n ≤ F 304 s.toNat - i then 0 else -13) else -12
theorem K100 (hh : RfH h) (c : Ysheet F G) {s l : Int} (rs : R32 s) (rl : R32 l) (H : Q (some (vi (sRow F s l))) (Wd S L F G h)) : C100_0 s l (Wd S L F G h) Q := by
  have bad : ¬ (0 ≤ s ∧ s ≤ 3 ∧ 0 ≤ l ∧ l ≤ 3) → Q (some (vi (-1))) (Wd S L F G h) := fun hb => by
    have e : sRow F s l = -1 := by unfold sRow; rw [if_neg hb]
    rw [e] at H
    exact H
  refine T100_0 hh ⟨rs, ?_⟩
  split
  · exact bad (by omega)
  split
  · exact bad (by omega)
  refine ⟨rl, ?_⟩
  split
  · exact bad (by omega)
  split
  · exact bad (by omega)
  have hs := c.1 s.toNat (by omega)
  refine ⟨by omega, by omega, ?_⟩
  unfold sRow at H
  rw [if_pos (by omega)] at H
  split
  · rw [if_pos (by omega)] at H
    exact H
  · rw [if_neg (by omega)] at H
    refine ⟨by omega, ?_⟩
    split
    · rw [if_pos (by omega)] at H
      exact H
    · rw [if_neg (by omega)] at H
      exact H
theorem K20 (hh : RfH h) {p : Nat} (sp : YSP p) {i n : Int} (hl : 0 ≤ F p 2 ∧ F p 2 ≤ 24) (ri : R32 i) (rn : R32 n) (H : Q (some (vi (if 0 ≤ i ∧ 0 ≤ n ∧ i ≤ F p 2 ∧ n ≤ F p 2 - i then 1 else 0))) (Wd S L F G h)) : C20_0 p i n (Wd S L F G h) Q := by
  refine T20_0 hh sp ⟨ri, ?_⟩
  split
  · rw [if_neg (by omega)] at H; exact H
  refine ⟨rn, ?_⟩
  split
  · rw [if_neg (by omega)] at H; exact H
  refine ⟨by omega, ?_⟩
  split
  · rw [if_neg (by omega)] at H; exact H
  refine ⟨by omega, ?_⟩
  split
  · rw [if_neg (by omega)] at H; exact H
  · rw [if_pos (by omega)] at H; exact H
theorem K193 (hh : RfH h) {G0 : Nat → Nat → Int} (c : Ysheet F G0) {s l i n : Int} (hs : 0 ≤ s ∧ s ≤ 3) (hl : 0 ≤ l ∧ l ≤ 3) (ri : R32 i) (rn : R32 n) (H : Q (some (vi (sFound F s l i n))) (Wd S L F G h)) : C193_0 s l i n (Wd S L F G h) Q := by
  have h1 := c.1 s.toNat (by omega)
  unfold sFound at H
  refine T193_0 hh ⟨by omega, by omega, ?_⟩
  split
  · rw [if_neg (by omega)] at H
    refine ⟨by omega, ?_⟩
    split
    · rw [if_pos (by omega)] at H
      refine ⟨ri, ?_⟩
      split
      · rw [if_neg (by omega)] at H; exact H
      · refine ⟨rn, by omega, ?_⟩
        split
        · rw [if_pos (by omega)] at H; exact H
        · rw [if_neg (by omega)] at H; exact H
    · rw [if_neg (by omega)] at H; exact H
  · rw [if_pos (by omega)] at H; exact H
theorem K21 (hh : RfH h) {p : Nat} (sp : YSP p) {i v : Int} (hl : 0 ≤ F p 1 ∧ F p 1 ≤ 3) (hi : 0 ≤ i ∧ i < 24) (H : Q none (Wd S L F (am_up G (p + 1) i.toNat (sCut (F p 1) v)) h)) : C21_0 p i v (Wd S L F G h) Q := by
  unfold sCut at H
  refine T21_0 hh sp ⟨by omega, ?_⟩
  split
  · rename_i c
    rw [if_pos c] at H
    exact ⟨r32_toInt _, hi, H⟩
  rename_i c0
  rw [if_neg c0] at H
  split
  · rename_i c
    rw [if_pos c] at H
    exact ⟨r32_toInt _, hi, H⟩
  rename_i c1
  rw [if_neg c1] at H
  split
  · rename_i c
    rw [if_pos c] at H
    exact ⟨r32_toInt _, hi, H⟩
  · rename_i c2
    rw [if_neg c2] at H
    exact ⟨hi, H⟩
theorem K192 (hh : RfH h) {l v : Int} (hl : R32 l) (H : Q (some (vj (sCut l v))) (Wd S L F G h)) : C192_0 l v (Wd S L F G h) Q := by
  unfold sCut at H
  refine T192_0 hh ⟨hl, ?_⟩
  split
  · rename_i c
    rw [if_pos c] at H
    exact ⟨r32_toInt _, H⟩
  rename_i c0
  rw [if_neg c0] at H
  split
  · rename_i c
    rw [if_pos c] at H
    exact ⟨r32_toInt _, H⟩
  rename_i c1
  rw [if_neg c1] at H
  split
  · rename_i c
    rw [if_pos c] at H
    exact ⟨r32_toInt _, H⟩
  · rename_i c2
    rw [if_neg c2] at H
    exact H
/-- an item put by both sides -/
theorem Ysheet.put (c : Ysheet F G) {s i : Nat} (hs : s < 4) (hi : i < 24) {x : Int} (rx : R64 x) : Ysheet F (am_up (am_up G (290 + 2 * s) i x) 305 (24 * s + i) x) := by
  refine ⟨c.1, fun s' hs' k hk => ?_⟩
  have h1 := c.2 s' hs' k hk
  have e1 : am_up (am_up G (290 + 2 * s) i x) 305 (24 * s + i) x 305 (24 * s' + k) = if 24 * s' + k = 24 * s + i then x else G 305 (24 * s' + k) := by rw [up_at, up_out (by omega)]
  have e2 : am_up (am_up G (290 + 2 * s) i x) 305 (24 * s + i) x (290 + 2 * s') k = if s' = s ∧ k = i then x else G (290 + 2 * s') k := by
    rw [up_out (by omega)]
    unfold am_up
    by_cases q : s' = s
    · subst q
      rw [if_pos rfl]
      by_cases q2 : k = i
      · rw [if_pos q2, if_pos ⟨rfl, q2⟩]
      · rw [if_neg q2, if_neg (fun e => q2 e.2)]
    · rw [if_neg (by omega), if_neg (fun e => q e.1)]
  rw [e1, e2]
  by_cases q : s' = s ∧ k = i
  · rw [if_pos q, if_pos (by omega)]
    exact ⟨rfl, rx⟩
  · rw [if_neg q, if_neg (by omega)]
    exact h1
def sItem (F : Nat → Nat → Int) (s l i : Int) : Int := if sRow F s l < 0 then sRow F s l else if 0 ≤ i ∧ 1 ≤ F 304 s.toNat - i then 1 else -13
theorem sRow_neg (F : Nat → Nat → Int) (s l : Int) : R32 (sRow F s l) ∧ (sRow F s l < 0 ∨ (sRow F s l = 0 ∧ 0 ≤ s ∧ s ≤ 3 ∧ 0 ≤ l ∧ l ≤ 3 ∧ F 303 s.toNat ≠ -1 ∧ F 303 s.toNat = l)) := by
  unfold sRow
  repeat' split
  · exact ⟨by decide, Or.inl (by decide)⟩
  · exact ⟨by decide, Or.inr (by omega)⟩
  · exact ⟨by decide, Or.inl (by decide)⟩
  · exact ⟨by decide, Or.inl (by decide)⟩
theorem K96 (hh : RfH h) (c : Ysheet F G) {s l i v : Int} (rs : R32 s) (rl : R32 l) (ri : R32 i) (Hb : sItem F s l i ≠ 1 → Q (some (vi (sItem F s l i))) (Wd S L F G h))
    (H : sItem F s l i = 1 → 0 ≤ s ∧ s ≤ 3 ∧ 0 ≤ i ∧ i < 24 → Q (some (vi (sItem F s l i))) (Wd S L F (am_up G (290 + 2 * s.toNat) i.toNat (sCut l v)) h)) : C96_0 s l i v (Wd S L F G h) Q := by
  obtain ⟨q1, q2⟩ := sRow_neg F s l
  refine T96_0 hh (K100 hh c rs rl ⟨_, rfl, rfl, q1, ?_⟩)
  rcases q2 with q2 | ⟨q2, a1, a2, a3, a4, a5, a6⟩
  · rw [if_neg (by omega)]
    have e : sItem F s l i = sRow F s l := by unfold sItem; rw [if_pos q2]
    rw [e] at Hb
    exact Hb (by omega)
  · rw [if_pos (by omega)]
    have h1 := c.1 s.toNat (by omega)
    have sp : YSP (289 + 2 * s.toNat) := ⟨s.toNat, by omega, rfl⟩
    refine ⟨by omega, K20 hh sp (by omega) ri (by decide) ⟨_, rfl, rfl, ?_⟩⟩
    split
    · rename_i hc
      refine ⟨by decide, ?_⟩
      rw [if_neg (by decide)]
      have e : sItem F s l i = 1 := by unfold sItem; rw [if_neg (by omega), if_pos (by omega)]
      rw [e] at H
      refine K21 hh sp (by omega) (by omega) ⟨_, rfl, rfl, ?_⟩
      rw [show F (289 + 2 * s.toNat) 1 = l by omega, show 289 + 2 * s.toNat + 1 = 290 + 2 * s.toNat by omega]
      exact H rfl (by omega)
    · rename_i hc
      refine ⟨by decide, ?_⟩
      rw [if_pos rfl]
      have e : sItem F s l i = -13 := by unfold sItem; rw [if_neg (by omega), if_neg (by omega)]
      rw [e] at Hb
      exact Hb (by decide)
theorem sFound_row {s l i n : Int} (hs : 0 ≤ s ∧ s ≤ 3) (hl : 0 ≤ l ∧ l ≤ 3) : sFound F s l i n = if sRow F s l < 0 then sRow F s l else if 0 ≤ i ∧ n ≤ F 304 s.toNat - i then 0 else -13 := by
  have hin : 0 ≤ s ∧ s ≤ 3 ∧ 0 ≤ l ∧ l ≤ 3 := by omega
  unfold sFound sRow
  simp only [if_pos hin]
  by_cases c1 : F 303 s.toNat = -1
  · simp only [if_pos c1]
    rw [if_pos (by decide)]
  · simp only [if_neg c1]
    by_cases c2 : F 303 s.toNat = l
    · simp only [if_pos c2]
      rw [if_neg (show ¬ (0 : Int) < 0 by decide)]
    · simp only [if_neg c2]
      rw [if_pos (by decide)]
theorem K198 (hh : RfH h) {G0 : Nat → Nat → Int} (c : Ysheet F G0) {s l i v : Int} (rs : R32 s) (rl : R32 l) (ri : R32 i) (Hb : sItem F s l i ≠ 1 → Q (some (vi (sItem F s l i))) (Wd S L F G h))
    (H : sItem F s l i = 1 → Q (some (vi (sItem F s l i))) (Wd S L F (am_up G 305 (24 * s.toNat + i.toNat) (sCut l v)) h)) : C198_0 s l i v (Wd S L F G h) Q := by
  have bad : ¬ (0 ≤ s ∧ s ≤ 3 ∧ 0 ≤ l ∧ l ≤ 3) → Q (some (vi (-1))) (Wd S L F G h) := fun hb => by
    have e : sItem F s l i = -1 := by unfold sItem sRow; rw [if_neg hb, if_pos (by decide)]
    rw [e] at Hb
    exact Hb (by decide)
  refine T198_0 hh ⟨rs, ?_⟩
  split
  · exact bad (by omega)
  split
  · exact bad (by omega)
  refine ⟨rl, ?_⟩
  split
  · exact bad (by omega)
  split
  · exact bad (by omega)
  have h1 := c.1 s.toNat (by omega)
  refine K193 hh c (by omega) (by omega) ri (by decide) ⟨_, rfl, rfl, ?_⟩
  rw [sFound_row (by omega) (by omega)]
  obtain ⟨q1, q2⟩ := sRow_neg F s l
  unfold sItem at Hb H
  by_cases c1 : sRow F s l < 0
  · rw [if_pos c1] at Hb ⊢
    refine ⟨q1, ?_⟩
    rw [if_neg (by omega)]
    exact Hb (by omega)
  · rw [if_neg c1] at Hb H ⊢
    by_cases c2 : 0 ≤ i ∧ 1 ≤ F 304 s.toNat - i
    · rw [if_pos c2] at H ⊢
      refine ⟨by decide, ?_⟩
      rw [if_pos (by decide)]
      refine K192 hh rl ⟨_, rfl, rfl, by omega, ?_⟩
      rw [show (24 * s + i).toNat = 24 * s.toNat + i.toNat by omega]
      exact H rfl
    · rw [if_neg c2] at Hb ⊢
      refine ⟨by decide, ?_⟩
      rw [if_neg (by decide)]
      exact Hb (by decide)
theorem R32_sItem (F : Nat → Nat → Int) (s l i : Int) : R32 (sItem F s l i) := by
  unfold sItem
  have := (sRow_neg F s l).1
  repeat' split
  · exact this
  · decide
  · decide
theorem O1078 {xs : Nat → Int} (I : Inv F G h xs) {x3 : Int} (hx : 0 ≤ x3 ∧ x3 + 6 ≤ (L : Int)) (hL : L ≤ 3072) (K : ∀ (F' G' : Nat → Nat → Int) (h' : Nat → Nat → Option Nat), Inv F' G' h' xs → C201_18 (x3 + 6) (Wd S L F' G' h') Q) : C201_1078 x3 (Wd S L F G h) Q := by
  have hh := I.1
  obtain ⟨t, v⟩ := I.row
  have hR : ∀ k, R32 (F 9999 k) := I.r32
  refine T201_1078 hh ⟨by omega, by omega, by omega, by omega, by omega, by omega, by omega, by omega, hR _, by omega, by omega, hR _, ?_⟩
  have c := I.2.2.2.2.1
  have ra := hR (x3 + 1).toNat
  have rb := hR (x3 + 2).toNat
  have rc := hR (x3 + 3).toNat
  have rv := r64_toInt (Int64.ofInt (Int64.ofInt (F 9999 (x3 + 4).toNat) <<< ((Int32.ofInt 32).toInt64 &&& 63)).toInt ||| Int64.ofInt (Int64.ofInt (F 9999 (x3 + 5).toNat) &&& Int64.ofInt 4294967295).toInt)
  refine K96 hh c ra rb rc (fun hn => ⟨_, _, rfl, rfl, ?_⟩) (fun hs ok => ⟨_, _, rfl, rfl, ?_⟩)
  · refine K198 hh c ra rb rc (fun _ => ⟨_, _, rfl, rfl, R32_sItem _ _ _ _, R32_sItem _ _ _ _, ?_⟩) (fun hs => absurd hs hn)
    rw [if_pos rfl]
    exact K F G h I
  · refine K198 hh c ra rb rc (fun hn => absurd hs hn) (fun _ => ⟨_, _, rfl, rfl, R32_sItem _ _ _ _, R32_sItem _ _ _ _, ?_⟩)
    rw [if_pos rfl]
    exact K _ _ _ (I.sheet (fun p h1 h2 h3 => rfl) (c.put (by omega) (by omega) (R64_sCut rv)))
def sCopyOk (F : Nat → Nat → Int) (a i b j n : Int) : Prop := (0 ≤ a ∧ a ≤ 3 ∧ 0 ≤ b ∧ b ≤ 3) ∧ F 303 a.toNat ≠ -1 ∧ F 303 b.toNat ≠ -1 ∧ F 303 a.toNat = F 303 b.toNat ∧ 0 ≤ i ∧ 0 ≤ j ∧ 0 ≤ n ∧ n ≤ F 304 a.toNat - i ∧ n ≤ F 304 b.toNat - j
def sCopy (F : Nat → Nat → Int) (a i b j n : Int) : Int := if 0 ≤ a ∧ a ≤ 3 ∧ 0 ≤ b ∧ b ≤ 3 then (if F 303 a.toNat = -1 ∨ F 303 b.toNat = -1 then -11 else if F 303 a.toNat = F 303 b.toNat then (if 0 ≤ i ∧ 0 ≤ j ∧ 0 ≤ n ∧ n ≤ F 304 a.toNat - i ∧ n ≤ F 304 b.toNat - j then n else -13) else -12) else -1
theorem R32_sCopy (F : Nat → Nat → Int) (a i b j : Int) {n : Int} (rn : R32 n) : R32 (sCopy F a i b j n) := by
  unfold sCopy
  repeat' split
  all_goals first | exact rn | decide
theorem sCopy_1 {a i b j n : Int} (c : ¬ (0 ≤ a ∧ a ≤ 3 ∧ 0 ≤ b ∧ b ≤ 3)) : sCopy F a i b j n = -1 ∧ ¬ sCopyOk F a i b j n := by
  refine ⟨?_, fun e => c e.1⟩
  unfold sCopy
  rw [if_neg c]
theorem sCopy_11 {a i b j n : Int} (c : 0 ≤ a ∧ a ≤ 3 ∧ 0 ≤ b ∧ b ≤ 3) (c1 : F 303 a.toNat = -1 ∨ F 303 b.toNat = -1) : sCopy F a i b j n = -11 ∧ ¬ sCopyOk F a i b j n := by
  refine ⟨?_, fun e => ?_⟩
  · unfold sCopy
    rw [if_pos c, if_pos c1]
  · obtain ⟨-, e1, e2, -⟩ := e
    omega
theorem sCopy_12 {a i b j n : Int} (c : 0 ≤ a ∧ a ≤ 3 ∧ 0 ≤ b ∧ b ≤ 3) (c1 : ¬ (F 303 a.toNat = -1 ∨ F 303 b.toNat = -1)) (c2 : ¬ F 303 a.toNat = F 303 b.toNat) : sCopy F a i b j n = -12 ∧ ¬ sCopyOk F a i b j n := by
  refine ⟨?_, fun e => c2 e.2.2.2.1⟩
  unfold sCopy
  rw [if_pos c, if_neg c1, if_neg c2]
theorem sCopy_13 {a i b j n : Int} (c : 0 ≤ a ∧ a ≤ 3 ∧ 0 ≤ b ∧ b ≤ 3) (c1 : ¬ (F 303 a.toNat = -1 ∨ F 303 b.toNat = -1)) (c2 : F 303 a.toNat = F 303 b.toNat) (c3 : ¬ (0 ≤ i ∧ 0 ≤ j ∧ 0 ≤ n ∧ n ≤ F 304 a.toNat - i ∧ n ≤ F 304 b.toNat - j)) : sCopy F a i b j n = -13 ∧ ¬ sCopyOk F a i b j n := by
  refine ⟨?_, fun e => c3 e.2.2.2.2⟩
  unfold sCopy
  rw [if_pos c, if_neg c1, if_pos c2, if_neg c3]
theorem sCopy_ok {a i b j n : Int} (c : 0 ≤ a ∧ a ≤ 3 ∧ 0 ≤ b ∧ b ≤ 3) (c1 : ¬ (F 303 a.toNat = -1 ∨ F 303 b.toNat = -1)) (c2 : F 303 a.toNat = F 303 b.toNat) (c3 : 0 ≤ i ∧ 0 ≤ j ∧ 0 ≤ n ∧ n ≤ F 304 a.toNat - i ∧ n ≤ F 304 b.toNat - j) : sCopy F a i b j n = n ∧ sCopyOk F a i b j n := by
  refine ⟨?_, c, by omega, by omega, c2, c3⟩
  unfold sCopy
  rw [if_pos c, if_neg c1, if_pos c2, if_pos c3]
theorem K97 (hh : RfH h) (c : Ysheet F G) {a i b j n : Int} (ra : R32 a) (ri : R32 i) (rb : R32 b) (rj : R32 j) (rn : R32 n) (Hb : ¬ sCopyOk F a i b j n → Q (some (vi (sCopy F a i b j n))) (Wd S L F G h))
    (H : sCopyOk F a i b j n → Q (some (vi (sCopy F a i b j n))) (Wd S L F (am_row G (290 + 2 * b.toNat) (va_cpy (G (290 + 2 * a.toNat)) (G (290 + 2 * b.toNat)) i.toNat j.toNat n.toNat)) h)) : C97_0 a i b j n (Wd S L F G h) Q := by
  have fail : ∀ x, sCopy F a i b j n = x ∧ ¬ sCopyOk F a i b j n → Q (some (vi x)) (Wd S L F G h) := fun x hx => by
    rw [hx.1] at Hb
    exact Hb hx.2
  refine T97_0 hh ⟨ra, ?_⟩
  split
  · exact fail _ (sCopy_1 (by omega))
  split
  · exact fail _ (sCopy_1 (by omega))
  refine ⟨rb, ?_⟩
  split
  · exact fail _ (sCopy_1 (by omega))
  split
  · exact fail _ (sCopy_1 (by omega))
  have h1 := c.1 a.toNat (by omega)
  have h2 := c.1 b.toNat (by omega)
  have sa : YSP (289 + 2 * a.toNat) := ⟨a.toNat, by omega, rfl⟩
  have sb : YSP (289 + 2 * b.toNat) := ⟨b.toNat, by omega, rfl⟩
  refine ⟨by omega, by omega, ?_⟩
  split
  · exact fail _ (sCopy_11 (by omega) (by omega))
  refine ⟨by omega, by omega, ?_⟩
  split
  · exact fail _ (sCopy_11 (by omega) (by omega))
  refine ⟨by omega, by omega, ?_⟩
  split
  · refine K20 hh sa (by omega) ri rn ⟨_, rfl, rfl, ?_⟩
    split
    · refine ⟨by decide, ?_⟩
      rw [if_neg (by decide)]
      refine K20 hh sb (by omega) rj rn ⟨_, rfl, rfl, ?_⟩
      split
      · refine ⟨by decide, ?_⟩
        rw [if_neg (by decide)]
        have ok := sCopy_ok (F := F) (a := a) (i := i) (b := b) (j := j) (n := n) (by omega) (by omega) (by omega) (by omega)
        rw [ok.1] at H
        rw [show 289 + 2 * a.toNat + 1 = 290 + 2 * a.toNat by omega, show 289 + 2 * b.toNat + 1 = 290 + 2 * b.toNat by omega]
        exact ⟨by omega, H ok.2⟩
      · refine ⟨by decide, ?_⟩
        rw [if_pos rfl]
        exact fail _ (sCopy_13 (by omega) (by omega) (by omega) (by omega))
    · refine ⟨by decide, ?_⟩
      rw [if_pos rfl]
      exact fail _ (sCopy_13 (by omega) (by omega) (by omega) (by omega))
  · exact fail _ (sCopy_12 (by omega) (by omega) (by omega))
theorem L199b (hh : RfH h) {b j n : Nat} (hb : b < 4) (hj : j + n ≤ 24) (H : ∀ G' : Nat → Nat → Int, (∀ k, G' 305 k = if 24 * b + j ≤ k ∧ k < 24 * b + j + n then G 306 (k - (24 * b + j)) else G 305 k) → (∀ q, q ≠ 305 → G' q = G q) → Q (some (vi (n : Int))) (Wd S L F G' h)) :
    ∀ (m k : Nat) (G1 : Nat → Nat → Int), k + m = n → (∀ x, G1 305 x = if 24 * b + j ≤ x ∧ x < 24 * b + j + k then G 306 (x - (24 * b + j)) else G 305 x) → (∀ q, q ≠ 305 → G1 q = G q) → C199_139 (b : Int) (j : Int) (n : Int) (k : Int) (Wd S L F G1 h) Q
  | 0, k, G1, e, h1, h2 => by
    refine T199_139 hh ⟨by omega, by omega, ?_⟩
    rw [if_pos (by omega)]
    have : k = n := by omega
    subst this
    exact H G1 h1 h2
  | m + 1, k, G1, e, h1, h2 => by
    refine T199_139 hh ⟨by omega, by omega, ?_⟩
    rw [if_neg (by omega)]
    refine ⟨by omega, by omega, ?_⟩
    have e1 : ((k : Nat) : Int).toNat = k := by omega
    have e2 : (24 * (b : Int) + (j : Int) + (k : Int)).toNat = 24 * b + j + k := by omega
    rw [e1, e2]
    refine L199b hh hb hj H m (k + 1) _ (by omega) (fun x => ?_) (fun q hq => by rw [up_out hq, h2 q hq])
    rw [up_at]
    by_cases q : x = 24 * b + j + k
    · rw [if_pos q, if_pos (by omega), h2 306 (by decide), q]
      congr 1
      omega
    · rw [if_neg q, h1 x]
      by_cases q2 : 24 * b + j ≤ x ∧ x < 24 * b + j + k
      · rw [if_pos q2, if_pos (by omega)]
      · rw [if_neg q2, if_neg (by omega)]
theorem L199a (hh : RfH h) {a i b j n : Nat} (ha : a < 4) (hi : i + n ≤ 24) (H : ∀ G' : Nat → Nat → Int, (∀ k, k < n → G' 306 k = G 305 (24 * a + i + k)) → (∀ q, q ≠ 306 → G' q = G q) → C199_139 (b : Int) (j : Int) (n : Int) 0 (Wd S L F G' h) Q) :
    ∀ (m k : Nat) (G1 : Nat → Nat → Int), k + m = n → (∀ x, x < k → G1 306 x = G 305 (24 * a + i + x)) → (∀ q, q ≠ 306 → G1 q = G q) → C199_102 (a : Int) (i : Int) (b : Int) (j : Int) (n : Int) (k : Int) (Wd S L F G1 h) Q
  | 0, k, G1, e, h1, h2 => by
    refine T199_102 hh ⟨by omega, by omega, ?_⟩
    rw [if_pos (by omega)]
    exact H G1 (fun x hx => h1 x (by omega)) h2
  | m + 1, k, G1, e, h1, h2 => by
    refine T199_102 hh ⟨by omega, by omega, ?_⟩
    rw [if_neg (by omega)]
    refine ⟨by omega, by omega, ?_⟩
    have e1 : ((k : Nat) : Int).toNat = k := by omega
    have e2 : (24 * (a : Int) + (i : Int) + (k : Int)).toNat = 24 * a + i + k := by omega
    rw [e1, e2]
    refine L199a hh ha hi H m (k + 1) _ (by omega) (fun x hx => ?_) (fun q hq => by rw [up_out hq, h2 q hq])
    rw [up_at]
    by_cases q : x = k
    · rw [if_pos q, h2 305 (by decide), q]
    · rw [if_neg q]
      exact h1 x (by omega)
theorem K199 (hh : RfH h) {G0 : Nat → Nat → Int} (c : Ysheet F G0) {a i b j n : Int} (ra : R32 a) (ri : R32 i) (rb : R32 b) (rj : R32 j) (rn : R32 n) (Hb : ¬ sCopyOk F a i b j n → Q (some (vi (sCopy F a i b j n))) (Wd S L F G h))
    (H : sCopyOk F a i b j n → ∀ G' : Nat → Nat → Int, (∀ k, G' 305 k = if 24 * b.toNat + j.toNat ≤ k ∧ k < 24 * b.toNat + j.toNat + n.toNat then G 305 (24 * a.toNat + i.toNat + (k - (24 * b.toNat + j.toNat))) else G 305 k) → (∀ q, q ≠ 305 → q ≠ 306 → G' q = G q) → Q (some (vi (sCopy F a i b j n))) (Wd S L F G' h)) : C199_0 a i b j n (Wd S L F G h) Q := by
  have fail : ∀ x, sCopy F a i b j n = x ∧ ¬ sCopyOk F a i b j n → Q (some (vi x)) (Wd S L F G h) := fun x hx => by
    rw [hx.1] at Hb
    exact Hb hx.2
  refine T199_0 hh ⟨ra, ?_⟩
  by_cases u1 : a < 0
  · rw [if_pos u1]
    exact fail _ (sCopy_1 (by omega))
  rw [if_neg u1]
  by_cases u2 : 3 < a
  · rw [if_pos u2]
    exact fail _ (sCopy_1 (by omega))
  rw [if_neg u2]
  refine ⟨rb, ?_⟩
  by_cases u3 : b < 0
  · rw [if_pos u3]
    exact fail _ (sCopy_1 (by omega))
  rw [if_neg u3]
  by_cases u4 : 3 < b
  · rw [if_pos u4]
    exact fail _ (sCopy_1 (by omega))
  rw [if_neg u4]
  have h1 := c.1 a.toNat (by omega)
  have h2 := c.1 b.toNat (by omega)
  refine ⟨by omega, by omega, ?_⟩
  by_cases w1 : F 303 a.toNat < 0
  · rw [if_pos w1]
    exact fail _ (sCopy_11 (by omega) (by omega))
  rw [if_neg w1]
  refine ⟨by omega, by omega, ?_⟩
  by_cases w2 : 0 ≤ F 303 b.toNat
  · rw [if_pos w2]
    by_cases w3 : F 303 a.toNat = F 303 b.toNat
    · rw [if_pos w3]
      refine ⟨rn, ?_⟩
      by_cases w4 : n < 0
      · rw [if_pos w4]
        exact fail _ (sCopy_13 (by omega) (by omega) (by omega) (by omega))
      rw [if_neg w4]
      refine ⟨ri, ?_⟩
      by_cases w5 : i < 0
      · rw [if_pos w5]
        exact fail _ (sCopy_13 (by omega) (by omega) (by omega) (by omega))
      rw [if_neg w5]
      refine ⟨rj, ?_⟩
      by_cases w6 : j < 0
      · rw [if_pos w6]
        exact fail _ (sCopy_13 (by omega) (by omega) (by omega) (by omega))
      rw [if_neg w6]
      refine ⟨by omega, ?_⟩
      by_cases w7 : F 304 a.toNat - i < n
      · rw [if_pos w7]
        exact fail _ (sCopy_13 (by omega) (by omega) (by omega) (by omega))
      rw [if_neg w7]
      refine ⟨by omega, ?_⟩
      by_cases w8 : n ≤ F 304 b.toNat - j
      · rw [if_pos w8]
        have ok := sCopy_ok (F := F) (a := a) (i := i) (b := b) (j := j) (n := n) (by omega) (by omega) (by omega) (by omega)
        rw [ok.1] at H
        have := L199a (F := F) (G := G) (S := S) (L := L) (h := h) (Q := Q) hh (a := a.toNat) (i := i.toNat) (b := b.toNat) (j := j.toNat) (n := n.toNat) (by omega) (by omega) (fun G1 g1 g2 => L199b (G := G1) hh (by omega) (by omega) (fun G2 k1 k2 => ?_) n.toNat 0 G1 (by omega) (fun x => by rw [if_neg (by omega)]) (fun q hq => rfl)) n.toNat 0 G (by omega) (fun x hx => absurd hx (Nat.not_lt_zero x)) (fun q hq => rfl)
        · rw [show ((a.toNat : Nat) : Int) = a by omega, show ((i.toNat : Nat) : Int) = i by omega, show ((b.toNat : Nat) : Int) = b by omega, show ((j.toNat : Nat) : Int) = j by omega, show ((n.toNat : Nat) : Int) = n by omega] at this
          exact this
        · rw [show ((n.toNat : Nat) : Int) = n by omega]
          refine H ok.2 G2 (fun k => ?_) (fun q h5 h6 => by rw [k2 q h5, g2 q h6])
          rw [k1 k]
          by_cases q : 24 * b.toNat + j.toNat ≤ k ∧ k < 24 * b.toNat + j.toNat + n.toNat
          · rw [if_pos q, if_pos q, g1 _ (by omega)]
          · rw [if_neg q, if_neg q, g2 305 (by decide)]
      · rw [if_neg w8]
        exact fail _ (sCopy_13 (by omega) (by omega) (by omega) (by omega))
    · rw [if_neg w3]
      exact fail _ (sCopy_12 (by omega) (by omega) (by omega))
  · rw [if_neg w2]
    exact fail _ (sCopy_11 (by omega) (by omega))
theorem O1161 {xs : Nat → Int} (I : Inv F G h xs) {x3 : Int} (hx : 0 ≤ x3 ∧ x3 + 6 ≤ (L : Int)) (hL : L ≤ 3072) (K : ∀ (F' G' : Nat → Nat → Int) (h' : Nat → Nat → Option Nat), Inv F' G' h' xs → C201_18 (x3 + 6) (Wd S L F' G' h') Q) : C201_1161 x3 (Wd S L F G h) Q := by
  have hh := I.1
  obtain ⟨t, v⟩ := I.row
  have hR : ∀ k, R32 (F 9999 k) := I.r32
  refine T201_1161 hh ⟨by omega, by omega, by omega, by omega, by omega, by omega, by omega, by omega, by omega, by omega, ?_⟩
  have c := I.2.2.2.2.1
  have ra := hR (x3 + 1).toNat
  have ri := hR (x3 + 2).toNat
  have rb := hR (x3 + 3).toNat
  have rj := hR (x3 + 4).toNat
  have rn := hR (x3 + 5).toNat
  generalize F 9999 (x3 + 1).toNat = a at ra ⊢
  generalize F 9999 (x3 + 2).toNat = i at ri ⊢
  generalize F 9999 (x3 + 3).toNat = b at rb ⊢
  generalize F 9999 (x3 + 4).toNat = j at rj ⊢
  generalize F 9999 (x3 + 5).toNat = n at rn ⊢
  refine K97 hh c ra ri rb rj rn (fun hn => ⟨_, _, rfl, rfl, ?_⟩) (fun ok => ⟨_, _, rfl, rfl, ?_⟩)
  · refine K199 hh c ra ri rb rj rn (fun _ => ⟨_, _, rfl, rfl, R32_sCopy F a i b j rn, R32_sCopy F a i b j rn, ?_⟩) (fun ok => absurd ok hn)
    rw [if_pos rfl]
    exact K F G h I
  · refine K199 hh c ra ri rb rj rn (fun hn => absurd ok hn) (fun _ G2 k1 k2 => ⟨_, _, rfl, rfl, R32_sCopy F a i b j rn, R32_sCopy F a i b j rn, ?_⟩)
    rw [if_pos rfl]
    refine K _ _ _ (I.sheet (fun p h1 h2 h3 => rfl) ⟨c.1, fun s hs k hk => ?_⟩)
    obtain ⟨⟨o1, o2, o3, o4⟩, o5, o6, o7, o8, o9, o10, o11, o12⟩ := ok
    have ha := c.1 a.toNat (by omega)
    have hb := c.1 b.toNat (by omega)
    rw [k1, k2 (290 + 2 * s) (by omega) (by omega)]
    have e305 : ∀ x, am_row G (290 + 2 * b.toNat) (va_cpy (G (290 + 2 * a.toNat)) (G (290 + 2 * b.toNat)) i.toNat j.toNat n.toNat) 305 x = G 305 x := fun x => by rw [row_out (by omega)]
    rw [e305, e305]
    by_cases q : s = b.toNat
    · subst q
      rw [row_in]
      unfold va_cpy
      by_cases q2 : j.toNat ≤ k ∧ k < j.toNat + n.toNat
      · rw [if_pos q2, if_pos (by omega)]
        have := c.2 a.toNat (by omega) (i.toNat + (k - j.toNat)) (by omega)
        rw [show 24 * a.toNat + i.toNat + (24 * b.toNat + k - (24 * b.toNat + j.toNat)) = 24 * a.toNat + (i.toNat + (k - j.toNat)) by omega]
        exact this
      · rw [if_neg q2, if_neg (by omega)]
        exact c.2 b.toNat (by omega) k hk
    · rw [row_out (by omega), if_neg (by omega)]
      exact c.2 s hs k hk
end SHEETS
