/-! copies of a Talk, the past -/
theorem tp_sep {p q : Nat} (tp : YTP p) (tq : YTP q) (h : p ≠ q) : p + 18 ≤ q ∨ q + 18 ≤ p :=
  (by decide +kernel : ∀ p ∈ tks, ∀ q ∈ tks, p ≠ q → p + 18 ≤ q ∨ q + 18 ≤ p) p tp.mem q tq.mem h
theorem row_in {F : Nat → Nat → Int} {f : Nat → Int} {q : Nat} : am_row F q f q = f := by
  unfold am_row; rw [if_pos rfl]
theorem row_out {F : Nat → Nat → Int} {f : Nat → Int} {p q : Nat} (h : p ≠ q) : am_row F q f p = F p := by
  unfold am_row; rw [if_neg h]
theorem up_out {F : Nat → Nat → Int} {x : Int} {p q k : Nat} (h : p ≠ q) : am_up F q k x p = F p := by
  unfold am_up; funext b; rw [if_neg h]
theorem up_at {F : Nat → Nat → Int} {x : Int} {q k b : Nat} : am_up F q k x q b = if b = k then x else F q b := by
  unfold am_up; rw [if_pos rfl]
theorem cpy0 {f g : Nat → Int} {n k : Nat} (h : k < n) : va_cpy f g 0 0 n k = f k := by
  unfold va_cpy
  rw [if_pos (by omega)]
  simp
def Ysth (h : Nat → Nat → Option Nat) (pp : Nat) (q : Nat → Nat) : Prop := (∀ i, i < 6 → h (pp + 1) i = some (q i)) ∧ (∀ i, i < 6 → ∃ j, j < 6 ∧ q i = pp + 2 + 18 * j) ∧ (∀ i j, i < 6 → j < 6 → q i = q j → i = j)
def Ypast (F : Nat → Nat → Int) (pp : Nat) (q : Nat → Nat) (n : Nat) (R : Nat → Row) : Prop := F pp 1 = (n : Int) ∧ n ≤ 6 ∧ ∀ i, i < n → Ytk F (q i) (R i)
theorem Ysth.tp37 {h : Nat → Nat → Option Nat} {q : Nat → Nat} (H : Ysth h 37 q) {i : Nat} (hi : i < 6) : YTP (q i) ∧ 39 ≤ q i ∧ q i + 18 ≤ 147 := by
  obtain ⟨j, hj, e⟩ := H.2.1 i hi
  rw [e]
  exact ⟨(by decide +kernel : ∀ j, j < 6 → isT (37 + 2 + 18 * j) = true) j hj, by omega, by omega⟩
theorem Ysth.tp165 {h : Nat → Nat → Option Nat} {q : Nat → Nat} (H : Ysth h 165 q) {i : Nat} (hi : i < 6) : YTP (q i) ∧ 167 ≤ q i ∧ q i + 18 ≤ 275 := by
  obtain ⟨j, hj, e⟩ := H.2.1 i hi
  rw [e]
  exact ⟨(by decide +kernel : ∀ j, j < 6 → isT (165 + 2 + 18 * j) = true) j hj, by omega, by omega⟩
def pushN (n : Nat) : Nat := if n = 6 then 6 else n + 1
def pushR (n : Nat) (R : Nat → Row) (r : Row) : Nat → Row := fun i => if n = 6 then (if i < 5 then R (i + 1) else r) else (if i = n then r else R i)
section PAST
variable {S L : Nat} {F G : Nat → Nat → Int} {h : Nat → Nat → Option Nat} {Q : Option V2 → W2 → Prop}
theorem L24 (hh : RfH h) {p0 p1 : Nat} (tp0 : YTP p0) (tp1 : YTP p1) (hne : p0 ≠ p1) (H : ∀ F' : Nat → Nat → Int, (∀ q, ¬ (p0 + 10 ≤ q ∧ q < p0 + 18) → q ≠ p0 → F' q = F q) → (∀ i, F' p0 i = if i = 14 then F p1 14 else if i = 13 then F p1 13 else F p0 i) → (∀ j, j < 8 → ∀ i, i < 6 → F' (p0 + 10 + j) i = F (p1 + 10 + j) i) → Q none (Wd S L F' G h)) :
    ∀ (m k : Nat) (F1 : Nat → Nat → Int), k + m = 8 → (∀ q, ¬ (p0 + 10 ≤ q ∧ q < p0 + 18) → F1 q = F q) → (∀ j, j < k → ∀ i, i < 6 → F1 (p0 + 10 + j) i = F (p1 + 10 + j) i) → C24_154 p0 p1 (k : Int) (Wd S L F1 G h) Q
  | 0, k, F1, e, h1, h2 => by
    have hs := tp_sep tp0 tp1 hne
    refine T24_154 hh tp0 tp1 ⟨by omega, ?_⟩
    rw [if_pos (by omega)]
    have hk : k = 8 := by omega
    subst hk
    have g1 : am_up F1 p0 13 (F1 p1 13) p1 14 = F p1 14 := by rw [up_out (by omega), h1 p1 (by omega)]
    rw [g1, h1 p1 (by omega)]
    refine H _ (fun q hq hq0 => ?_) (fun i => ?_) (fun j hj i hi => ?_)
    · rw [up_out hq0, up_out hq0, h1 q hq]
    · rw [up_at, up_at, h1 p0 (by omega)]
    · rw [up_out (by omega), up_out (by omega)]
      exact h2 j hj i hi
  | m + 1, k, F1, e, h1, h2 => by
    have hs := tp_sep tp0 tp1 hne
    refine T24_154 hh tp0 tp1 ⟨by omega, ?_⟩
    rw [if_neg (by omega)]
    refine ⟨by omega, fun F4 e4 => ?_⟩
    have ek : ((k : Nat) : Int).toNat = k := by omega
    rw [ek] at e4
    refine L24 hh tp0 tp1 hne H m (k + 1) F4 (by omega) (fun q hq => ?_) (fun j hj i hi => ?_)
    · rw [← e4, row_out (by omega), h1 q hq]
    · by_cases hjk : j = k
      · subst hjk
        rw [← e4, row_in, cpy0 hi, h1 _ (by omega)]
      · rw [← e4, row_out (by omega)]
        exact h2 j (by omega) i hi
theorem K24 (hh : RfH h) {p0 p1 : Nat} (tp0 : YTP p0) (tp1 : YTP p1) (hne : p0 ≠ p1) (H : ∀ F' : Nat → Nat → Int, (∀ r, Ytk F p1 r → Ytk F' p0 r) → (∀ q, ¬ (p0 ≤ q ∧ q < p0 + 18) → F' q = F q) → Q none (Wd S L F' G h)) : C24_0 p0 p1 (Wd S L F G h) Q := by
  have hs := tp_sep tp0 tp1 hne
  refine T24_0 hh tp0 tp1 (fun F1 e1 F3 e3 F5 e5 F7 e7 F9 e9 F11 e11 F13 e13 F15 e15 => ?_)
  have c1 : ∀ k, k < 8 → F1 (p0 + 1) k = F (p1 + 1) k := fun k hk => by rw [← e1, row_in, cpy0 hk]
  have f1 : ∀ q, q ≠ p0 + 1 → F1 q = F q := fun q hq => by rw [← e1, row_out hq]
  have c3 : ∀ k, k < 8 → F3 (p0 + 2) k = F1 (p1 + 2) k := fun k hk => by rw [← e3, row_in, cpy0 hk]
  have f3 : ∀ q, q ≠ p0 + 2 → F3 q = F1 q := fun q hq => by rw [← e3, row_out hq]
  have c5 : ∀ k, k < 12 → F5 (p0 + 3) k = F3 (p1 + 3) k := fun k hk => by rw [← e5, row_in, cpy0 hk]
  have f5 : ∀ q, q ≠ p0 + 3 → F5 q = F3 q := fun q hq => by rw [← e5, row_out hq]
  have c7 : ∀ k, k < 12 → F7 (p0 + 4) k = F5 (p1 + 4) k := fun k hk => by rw [← e7, row_in, cpy0 hk]
  have f7 : ∀ q, q ≠ p0 + 4 → F7 q = F5 q := fun q hq => by rw [← e7, row_out hq]
  have c9 : ∀ k, k < 12 → F9 (p0 + 5) k = F7 (p1 + 5) k := fun k hk => by rw [← e9, row_in, cpy0 hk]
  have f9 : ∀ q, q ≠ p0 + 5 → F9 q = F7 q := fun q hq => by rw [← e9, row_out hq]
  have c11 : ∀ k, k < 12 → F11 (p0 + 6) k = F9 (p1 + 6) k := fun k hk => by rw [← e11, row_in, cpy0 hk]
  have f11 : ∀ q, q ≠ p0 + 6 → F11 q = F9 q := fun q hq => by rw [← e11, row_out hq]
  have a1 : am_up F11 p0 6 (F11 p1 6) p1 = F11 p1 := up_out (by omega)
  have a2 : am_up (am_up F11 p0 6 (F11 p1 6)) p0 7 (F11 p1 7) p1 = F11 p1 := by rw [up_out (by omega), a1]
  have a3 : am_up (am_up (am_up F11 p0 6 (F11 p1 6)) p0 7 (F11 p1 7)) p0 8 (F11 p1 8) p1 = F11 p1 := by rw [up_out (by omega), a2]
  rw [a1, a2, a3] at e13
  have d13 : ∀ q, q ≠ p0 → q ≠ p0 + 7 → F13 q = F11 q := fun q h0 h7 => by rw [← e13, row_out h7, up_out h0, up_out h0, up_out h0, up_out h0]
  have d0 : ∀ i, F13 p0 i = if i = 9 then F11 p1 9 else if i = 8 then F11 p1 8 else if i = 7 then F11 p1 7 else if i = 6 then F11 p1 6 else F11 p0 i := fun i => by
    rw [← e13, row_out (by omega), up_at, up_at, up_at, up_at]
  have d7 : ∀ k, k < 8 → F13 (p0 + 7) k = F11 (p1 + 7) k := fun k hk => by
    rw [← e13, row_in, cpy0 hk, up_out (by omega), up_out (by omega), up_out (by omega), up_out (by omega)]
  have c15 : ∀ k, k < 8 → F15 (p0 + 8) k = F13 (p1 + 8) k := fun k hk => by rw [← e15, row_in, cpy0 hk]
  have f15 : ∀ q, q ≠ p0 + 8 → F15 q = F13 q := fun q hq => by rw [← e15, row_out hq]
  clear e1 e3 e5 e7 e9 e11 e13 e15 a1 a2 a3
  have fr : ∀ q, q ≠ p0 + 1 → q ≠ p0 + 2 → q ≠ p0 + 3 → q ≠ p0 + 4 → q ≠ p0 + 5 → q ≠ p0 + 6 → F11 q = F q := fun q h1 h2 h3 h4 h5 h6 => by
    rw [f11 q h6, f9 q h5, f7 q h4, f5 q h3, f3 q h2, f1 q h1]
  refine L24 hh tp0 tp1 hne (fun F' g1 g2 g3 => ?_) 8 0 F15 (by omega) (fun q hq => rfl) (fun j hj => absurd hj (Nat.not_lt_zero j))
  have out : ∀ q, ¬ (p0 ≤ q ∧ q < p0 + 18) → F' q = F q := fun q hq => by
    rw [g1 q (by omega) (by omega), f15 q (by omega), d13 q (by omega) (by omega), fr q (by omega) (by omega) (by omega) (by omega) (by omega) (by omega)]
  have p10 : ∀ i, F15 p1 i = F p1 i := fun i => by rw [f15 _ (by omega), d13 _ (by omega) (by omega), fr _ (by omega) (by omega) (by omega) (by omega) (by omega) (by omega)]
  have q0 : ∀ i, F' p0 i = if i = 14 then F p1 14 else if i = 13 then F p1 13 else if i = 9 then F p1 9 else if i = 8 then F p1 8 else if i = 7 then F p1 7 else if i = 6 then F p1 6 else F p0 i := fun i => by
    rw [g2, p10, p10, f15 p0 (by omega), d0, fr p1 (by omega) (by omega) (by omega) (by omega) (by omega) (by omega), fr p0 (by omega) (by omega) (by omega) (by omega) (by omega) (by omega)]
  refine H F' (fun r t => ?_) out
  refine ⟨?_, ?_, ?_, ?_, ?_, ?_, ?_, ?_, ?_, ?_, ?_, ?_, ?_, ?_, ?_⟩
  · rw [q0]; exact t.n
  · rw [q0]; exact t.lo
  · rw [q0]; exact t.by
  · rw [q0]; exact t.wi
  · rw [q0]; exact t.w
  · rw [q0]; exact t.dr
  · intro k hk
    rw [g1 _ (by omega) (by omega), f15 _ (by omega), d13 _ (by omega) (by omega), f11 _ (by omega), f9 _ (by omega), f7 _ (by omega), f5 _ (by omega), f3 _ (by omega), c1 k hk]
    exact t.op k hk
  · intro k hk
    rw [g1 _ (by omega) (by omega), f15 _ (by omega), d13 _ (by omega) (by omega), f11 _ (by omega), f9 _ (by omega), f7 _ (by omega), f5 _ (by omega), c3 k hk, f1 _ (by omega)]
    exact t.wd k hk
  · intro k hk
    rw [g1 _ (by omega) (by omega), f15 _ (by omega), d13 _ (by omega) (by omega), f11 _ (by omega), f9 _ (by omega), f7 _ (by omega), c5 k hk, f3 _ (by omega), f1 _ (by omega)]
    exact t.sh k hk
  · intro k hk
    rw [g1 _ (by omega) (by omega), f15 _ (by omega), d13 _ (by omega) (by omega), f11 _ (by omega), f9 _ (by omega), c7 k hk, f5 _ (by omega), f3 _ (by omega), f1 _ (by omega)]
    exact t.pu k hk
  · intro k hk
    rw [g1 _ (by omega) (by omega), f15 _ (by omega), d13 _ (by omega) (by omega), f11 _ (by omega), c9 k hk, f7 _ (by omega), f5 _ (by omega), f3 _ (by omega), f1 _ (by omega)]
    exact t.sg k hk
  · intro k hk
    rw [g1 _ (by omega) (by omega), f15 _ (by omega), d13 _ (by omega) (by omega), c11 k hk, f9 _ (by omega), f7 _ (by omega), f5 _ (by omega), f3 _ (by omega), f1 _ (by omega)]
    exact t.tm k hk
  · intro k hk
    rw [g1 _ (by omega) (by omega), f15 _ (by omega), d7 k hk, fr _ (by omega) (by omega) (by omega) (by omega) (by omega) (by omega)]
    exact t.wt k hk
  · intro k hk
    rw [g1 _ (by omega) (by omega), c15 k hk, d13 _ (by omega) (by omega), fr _ (by omega) (by omega) (by omega) (by omega) (by omega) (by omega)]
    exact t.sz k hk
  · intro j hj k hk hl
    rw [g3 j hj k hk, f15 _ (by omega), d13 _ (by omega) (by omega), fr _ (by omega) (by omega) (by omega) (by omega) (by omega) (by omega)]
    exact t.lt j hj k hk hl
/-- the oldest is lost: the places go round -/
def rotq (q : Nat → Nat) : Nat → Nat := fun i => if i < 5 then q (i + 1) else q 0
theorem L15 {q : Nat → Nat} {q0 : Nat} (tp : YTP q0) (htp : ∀ i, i < 6 → YTP (q i)) (H : ∀ h' : Nat → Nat → Option Nat, RfH h' → (∀ i, i < 6 → h' 38 i = some (if i < 5 then q (i + 1) else q0)) → (∀ p, p ≠ 38 → h' p = h p) → Q none (Wd S L (am_up F 37 1 5) G h')) :
    ∀ (m k : Nat) (h1 : Nat → Nat → Option Nat), k + m = 6 → 1 ≤ k → RfH h1 → (∀ i, i < 6 → h1 38 i = some (if i + 1 < k then q (i + 1) else q i)) → (∀ p, p ≠ 38 → h1 p = h p) → C15_9 q0 (k : Int) (Wd S L F G h1) Q
  | 0, k, h1, e, hk1, hr, g1, g2 => by
    refine T15_9 hr tp ⟨by omega, ?_⟩
    rw [if_pos (by omega)]
    refine H _ hr.up38 (fun i hi => ?_) (fun p hp => ?_)
    · unfold am_up
      rw [if_pos rfl]
      by_cases q5 : i = 5
      · rw [if_pos q5, if_neg (by omega)]
      · rw [if_neg q5, g1 i hi, if_pos (by omega), if_pos (by omega)]
    · unfold am_up
      funext b
      rw [if_neg hp, g2 p hp]
  | m + 1, k, h1, e, hk1, hr, g1, g2 => by
    refine T15_9 hr tp ⟨by omega, ?_⟩
    rw [if_neg (by omega)]
    have ek : ((k : Nat) : Int).toNat = k := by omega
    have ek1 : (((k : Nat) : Int) - 1).toNat = k - 1 := by omega
    refine ⟨by omega, q k, ?_, htp k (by omega), by omega, ?_⟩
    · rw [ek, g1 k (by omega), if_neg (by omega)]
    rw [ek1]
    refine L15 tp htp H m (k + 1) _ (by omega) (by omega) hr.up38 (fun i hi => ?_) (fun p hp => ?_)
    · unfold am_up
      rw [if_pos rfl]
      by_cases qk : i = k - 1
      · rw [if_pos qk, if_pos (by omega), qk, show k - 1 + 1 = k by omega]
      · rw [if_neg qk, g1 i hi]
        by_cases q1 : i + 1 < k
        · rw [if_pos q1, if_pos (by omega)]
        · rw [if_neg q1, if_neg (by omega)]
    · unfold am_up
      funext b
      rw [if_neg hp, g2 p hp]
theorem K15 (hh : RfH h) {q : Nat → Nat} (hq : Ysth h 37 q) (H : ∀ h' : Nat → Nat → Option Nat, RfH h' → Ysth h' 37 (rotq q) → (∀ p, p ≠ 38 → h' p = h p) → Q none (Wd S L (am_up F 37 1 5) G h')) : C15_0 (Wd S L F G h) Q := by
  refine T15_0 hh ⟨q 0, hq.1 0 (by omega), (hq.tp37 (by omega)).1, ?_⟩
  refine L15 (q := q) (hq.tp37 (i := 0) (by omega)).1 (fun i hi => (hq.tp37 hi).1) (fun h' g0 g1 g2 => ?_) 5 1 h (by omega) (by omega) hh (fun i hi => by rw [hq.1 i hi, if_neg (by omega)]) (fun p hp => rfl)
  refine H h' g0 ⟨g1, fun i hi => ?_, fun i j hi hj e => ?_⟩ g2
  · unfold rotq
    split
    · exact hq.2.1 (i + 1) (by omega)
    · exact hq.2.1 0 (by omega)
  · unfold rotq at e
    split at e
    · split at e
      · have := hq.2.2 (i + 1) (j + 1) (by omega) (by omega) e; omega
      · have := hq.2.2 (i + 1) 0 (by omega) (by omega) e; omega
    · split at e
      · have := hq.2.2 0 (j + 1) (by omega) (by omega) e; omega
      · omega
theorem K14 (hh : RfH h) {q : Nat → Nat} {n : Nat} {R : Nat → Row} {p1 : Nat} {r : Row} (tp1 : YTP p1) (hp1 : p1 + 18 ≤ 37) (hq : Ysth h 37 q) (hp : Ypast F 37 q n R) (t : Ytk F p1 r)
    (H : ∀ (F' : Nat → Nat → Int) (h' : Nat → Nat → Option Nat) (q' : Nat → Nat), RfH h' → Ysth h' 37 q' → Ypast F' 37 q' (pushN n) (pushR n R r) → (∀ p, p < 37 ∨ 147 ≤ p → F' p = F p) → (∀ p, p ≠ 38 → h' p = h p) → Q none (Wd S L F' G h')) : C14_0 p1 (Wd S L F G h) Q := by
  obtain ⟨hp0, hp6, hpR⟩ := hp
  refine T14_0 hh tp1 ?_
  simp only [hp0]
  refine ⟨by omega, ?_⟩
  split
  · rename_i hn
    have hn : n = 6 := by omega
    subst hn
    refine K15 hh hq (fun h' g0 g1 g2 => ⟨_, _, rfl, rfl, g0, ?_⟩)
    have e5 : am_up F 37 1 5 37 1 = 5 := by rw [up_at, if_pos rfl]
    simp only [e5]
    refine ⟨by omega, rotq q 5, g1.1 5 (by omega), (g1.tp37 (by omega)).1, ?_⟩
    have h5 := g1.tp37 (i := 5) (by omega)
    refine K24 g0 h5.1 tp1 (by omega) (fun F' k1 k2 => ⟨_, rfl, rfl, ?_⟩)
    refine H _ h' (rotq q) g0 g1 ⟨?_, by decide, fun i hi => ?_⟩ (fun p hp => ?_) g2
    · rw [up_at, if_pos rfl, k2 37 (by omega), up_at, if_pos rfl]; rfl
    · have hi : i < 6 := hi
      have hqi := g1.tp37 (i := i) hi
      have hcong : ∀ r', Ytk F' (rotq q i) r' → Ytk (am_up F' 37 1 (F' 37 1 + 1)) (rotq q i) r' := fun r' tt => tt.cong (fun x hx _ => up_out (by omega))
      refine hcong _ ?_
      unfold pushR
      rw [if_pos rfl]
      by_cases q5 : i < 5
      · rw [if_pos q5]
        have hne : rotq q i ≠ rotq q 5 := fun e => by have := g1.2.2 i 5 hi (by omega) e; omega
        have hs := tp_sep hqi.1 h5.1 hne
        have : Ytk F (rotq q i) (R (i + 1)) := by
          unfold rotq
          rw [if_pos q5]
          exact hpR (i + 1) (by omega)
        exact this.cong (fun x hx hx2 => by rw [k2 x (by omega), up_out (by omega)])
      · have : i = 5 := by omega
        subst this
        rw [if_neg q5]
        exact k1 r (t.cong (fun x hx hx2 => up_out (by omega)))
    · rw [up_out (by omega), k2 p (by omega), up_out (by omega)]
  · rename_i hn
    have hn : n < 6 := by omega
    have en : ((n : Nat) : Int).toNat = n := by omega
    have hqn := hq.tp37 hn
    refine ⟨by omega, q n, by rw [en]; exact hq.1 n hn, hqn.1, ?_⟩
    refine K24 hh hqn.1 tp1 (by omega) (fun F' k1 k2 => ⟨_, rfl, rfl, ?_⟩)
    have e37 : F' 37 1 = (n : Int) := by rw [k2 37 (by omega)]; exact hp0
    refine H _ h q hh hq ⟨?_, ?_, fun i hi => ?_⟩ (fun p hp => ?_) (fun p hp => rfl)
    · rw [up_at, if_pos rfl, e37]
      unfold pushN
      rw [if_neg (by omega)]
      omega
    · unfold pushN
      rw [if_neg (by omega)]
      omega
    · unfold pushN at hi
      rw [if_neg (by omega)] at hi
      have hqi := hq.tp37 (i := i) (by omega)
      have hcong : ∀ r', Ytk F' (q i) r' → Ytk (am_up F' 37 1 (F' 37 1 + 1)) (q i) r' := fun r' tt => tt.cong (fun x hx _ => up_out (by omega))
      refine hcong _ ?_
      unfold pushR
      rw [if_neg (by omega)]
      by_cases qn : i = n
      · rw [if_pos qn, qn]
        exact k1 r t
      · rw [if_neg qn]
        have hne : q i ≠ q n := fun e => qn (hq.2.2 i n (by omega) hn e)
        have hs := tp_sep hqi.1 hqn.1 hne
        exact (hpR i (by omega)).cong (fun x hx hx2 => k2 x (by omega))
    · rw [up_out (by omega), k2 p (by omega)]
end PAST
