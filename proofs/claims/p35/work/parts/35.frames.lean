/-! frames: marks, what is lent, where a sound is, holds -/
def yM (r : Row) (i : Nat) : Int := ymk (ysm (fun k => r (58 + k)) i) (r 2) (r 3)
def yn (r : Row) : Nat := (r 0).toNat
def ldF (r : Row) (n : Nat) (f : Nat → Int) (i : Nat) : Nat → Int := if r (6 + (vshp r i).toNat) = 0 ∧ f i = 0 then (if 0 < i ∧ 2 ≤ f (i - 1) then yu1 (yu1 f (i - 1) (f (i - 1) - 1)) i 1 else if i + 1 < n ∧ 2 ≤ f (i + 1) then yu1 (yu1 f (i + 1) (f (i + 1) - 1)) i 1 else f) else f
def ldL (r : Row) (n : Nat) (f : Nat → Int) (i : Nat) : Int := if r (6 + (vshp r i).toNat) = 0 ∧ f i = 0 then (if 0 < i ∧ 2 ≤ f (i - 1) then 1 else if i + 1 < n ∧ 2 ≤ f (i + 1) then 2 else 0) else 0
def ldX (r : Row) (n : Nat) (f : Nat → Int) (i : Nat) : Int := if r (6 + (vshp r i).toNat) = 0 ∧ f i = 0 then (if 0 < i ∧ 2 ≤ f (i - 1) then 0 else if i + 1 < n ∧ 2 ≤ f (i + 1) then 0 else 1) else 0
def fk (r : Row) (n : Nat) : Nat → Nat → Int
  | 0 => fun i => yM r (i + 1) - yM r i
  | k + 1 => ldF r n (fk r n k) k
def yfr' (r : Row) : Nat → Int := fk r (yn r) (yn r)
def yln (r : Row) (i : Nat) : Int := ldL r (yn r) (fk r (yn r) i) i
def ylo (r : Row) (i : Nat) : Int := ldX r (yn r) (fk r (yn r) i) i
theorem ysm_up {f : Nat → Int} {a : Nat} {x : Int} : ∀ n, ysm (yu1 f a x) n = ysm f n + (if a < n then x - f a else 0)
  | 0 => by rw [if_neg (by omega)]; rfl
  | n + 1 => by
    show ysm (yu1 f a x) n + yu1 f a x n = ysm f n + f n + _
    rw [ysm_up n]
    unfold yu1
    by_cases q : n = a
    · rw [if_pos q, if_neg (by omega), if_pos (by omega), q]; omega
    · rw [if_neg q]
      by_cases q2 : a < n
      · rw [if_pos q2, if_pos (by omega)]; omega
      · rw [if_neg q2, if_neg (by omega)]; omega
theorem ysm_mono {f : Nat → Int} {n : Nat} (h : ∀ i, i < n → 0 ≤ f i) : ∀ {a b : Nat}, a ≤ b → b ≤ n → ysm f a ≤ ysm f b := by
  intro a b hab
  induction b with
  | zero => intro _; have : a = 0 := by omega
            subst this; exact Int.le_refl _
  | succ b ih =>
    intro hb
    by_cases q : a = b + 1
    · subst q; exact Int.le_refl _
    · have h1 := ih (by omega) (by omega)
      have h2 := h b (by omega)
      show _ ≤ ysm f b + f b
      omega
theorem ysm_ge {f : Nat → Int} {n i : Nat} (h : ∀ i, i < n → 0 ≤ f i) (hi : i < n) : f i ≤ ysm f n := by
  have h1 := ysm_mono h (a := i + 1) (b := n) (by omega) (Nat.le_refl _)
  have h2 := ysm_mono h (a := 0) (b := i) (by omega) (by omega)
  have e : ysm f (i + 1) = ysm f i + f i := rfl
  have e0 : ysm f 0 = 0 := rfl
  omega
theorem yM_mono {r : Row} (v : Yvd r) {a b : Nat} (h : a ≤ b) (hb : b ≤ 12) : yM r a ≤ yM r b := by
  have hlo := v.lo
  have hby := v.by
  refine ymk_mono ?_ hlo.1 (by omega)
  exact ysm_mono (n := 12) (fun i hi => (v.tm i hi).1) h hb
theorem yM_0 {r : Row} (v : Yvd r) : yM r 0 = 0 := by
  have hlo := v.lo
  show (2 * 0 * r 3 + r 2) / (2 * r 2) = 0
  rw [show (2 : Int) * 0 * r 3 + r 2 = r 2 by omega]
  exact Int.ediv_eq_zero_of_lt (by omega) (by omega)
theorem yn_le {r : Row} (v : Yvd r) : yn r ≤ 12 := by
  have := v.n
  unfold yn
  omega
theorem yM_n {r : Row} (v : Yvd r) : 0 ≤ yM r (yn r) ∧ yM r (yn r) ≤ 100 := by
  refine ⟨?_, v.mk⟩
  have := yM_mono v (a := 0) (b := yn r) (by omega) (yn_le v)
  rw [yM_0 v] at this
  exact this
theorem ldF_ok {r : Row} {n : Nat} {f : Nat → Int} {k : Nat} (hk : k < n) (h : ∀ i, i < n → 0 ≤ f i) : (∀ i, i < n → 0 ≤ ldF r n f k i) ∧ ysm (ldF r n f k) n = ysm f n := by
  unfold ldF
  split
  · rename_i hc
    split
    · rename_i ha
      refine ⟨fun i hi => ?_, ?_⟩
      · have := h i hi
        unfold yu1
        split
        · omega
        · split
          · omega
          · exact this
      · rw [ysm_up, ysm_up, if_pos hk, if_pos (by omega)]
        unfold yu1
        rw [if_neg (by omega)]
        omega
    · split
      · rename_i ha hb
        refine ⟨fun i hi => ?_, ?_⟩
        · have := h i hi
          unfold yu1
          split
          · omega
          · split
            · omega
            · exact this
        · rw [ysm_up, ysm_up, if_pos hk, if_pos (by omega)]
          unfold yu1
          rw [if_neg (by omega)]
          omega
      · exact ⟨h, rfl⟩
  · exact ⟨h, rfl⟩
theorem fk_ok {r : Row} (v : Yvd r) : ∀ k, k ≤ yn r → (∀ i, i < yn r → 0 ≤ fk r (yn r) k i) ∧ ysm (fk r (yn r) k) (yn r) = yM r (yn r)
  | 0, _ => by
    refine ⟨fun i hi => ?_, ?_⟩
    · have := yM_mono v (a := i) (b := i + 1) (by omega) (by have := yn_le v; omega)
      show 0 ≤ yM r (i + 1) - yM r i
      omega
    · have : ∀ m, ysm (fk r (yn r) 0) m = yM r m - yM r 0 := by
        intro m
        induction m with
        | zero => show (0 : Int) = _; omega
        | succ m ih =>
          show ysm (fk r (yn r) 0) m + (yM r (m + 1) - yM r m) = _
          rw [ih]; omega
      rw [this, yM_0 v]; omega
  | k + 1, hk => by
    obtain ⟨h1, h2⟩ := fk_ok v k (by omega)
    have := ldF_ok (r := r) (k := k) (by omega) h1
    exact ⟨this.1, by rw [← h2]; exact this.2⟩
theorem fk_bd {r : Row} (v : Yvd r) {k i : Nat} (hk : k ≤ yn r) (hi : i < yn r) : 0 ≤ fk r (yn r) k i ∧ fk r (yn r) k i ≤ 100 := by
  obtain ⟨h1, h2⟩ := fk_ok v k hk
  have := ysm_ge h1 hi
  have := yM_n v
  have := h1 i hi
  omega
theorem fk_zero {r : Row} (v : Yvd r) {i : Nat} : ∀ k, i < k → k ≤ yn r → (fk r (yn r) k i = 0 ↔ fk r (yn r) (i + 1) i = 0)
  | 0, h, _ => absurd h (Nat.not_lt_zero _)
  | k + 1, h, hk => by
    by_cases q : i = k
    · subst q; exact Iff.rfl
    · have ih := fk_zero v (i := i) k (by omega) (by omega)
      rw [← ih]
      show ldF r (yn r) (fk r (yn r) k) k i = 0 ↔ _
      unfold ldF
      split
      · split
        · rename_i ha
          unfold yu1
          rw [if_neg q]
          split
          · rename_i e; rw [e]; omega
          · exact Iff.rfl
        · split
          · unfold yu1
            rw [if_neg q, if_neg (by omega)]
          · exact Iff.rfl
      · exact Iff.rfl
theorem yfr_zero {r : Row} (v : Yvd r) {i : Nat} (hi : i < yn r) : yfr' r i = 0 ↔ fk r (yn r) (i + 1) i = 0 := fk_zero v _ hi (Nat.le_refl _)
theorem yfr_bd' {r : Row} (v : Yvd r) {i : Nat} (hi : i < yn r) : 0 ≤ yfr' r i ∧ yfr' r i ≤ 100 := fk_bd v (Nat.le_refl _) hi
theorem yfr_sum {r : Row} (v : Yvd r) : ysm (yfr' r) (yn r) = yM r (yn r) := (fk_ok v _ (Nat.le_refl _)).2
theorem yfr_mono {r : Row} (v : Yvd r) {a b : Nat} (h : a ≤ b) (hb : b ≤ yn r) : ysm (yfr' r) a ≤ ysm (yfr' r) b := ysm_mono (fun i hi => (yfr_bd' v hi).1) h hb
theorem yln_bd (r : Row) (i : Nat) : 0 ≤ yln r i ∧ yln r i ≤ 2 := by
  unfold yln ldL
  repeat' split
  all_goals omega
theorem ylo_bd (r : Row) (i : Nat) : ylo r i = 0 ∨ ylo r i = 1 := by
  unfold ylo ldX
  repeat' split
  all_goals omega
theorem ylo_zero {r : Row} (v : Yvd r) {i : Nat} (hi : i < yn r) (h : ylo r i = 1) : yfr' r i = 0 := by
  rw [yfr_zero v hi]
  show ldF r (yn r) (fk r (yn r) i) i i = 0
  unfold ylo ldX at h
  unfold ldF
  split
  · rename_i hc
    rw [if_pos hc] at h
    split
    · rename_i ha; rw [if_pos ha] at h; omega
    · rename_i ha
      rw [if_neg ha] at h
      split
      · rename_i hb; rw [if_pos hb] at h; omega
      · exact hc.2
  · rename_i hc; rw [if_neg hc] at h; omega
/-- the sound that a frame is of -/
def yat (r : Row) : Nat → Nat → Nat
  | 0, _ => 0
  | n + 1, f => if ysm (yfr' r) n ≤ (f : Int) then n else yat r n f
theorem yat_of {r : Row} (v : Yvd r) {f j : Nat} (h1 : ysm (yfr' r) j ≤ (f : Int)) (h2 : (f : Int) < ysm (yfr' r) (j + 1)) : ∀ n, j < n → n ≤ yn r → yat r n f = j
  | 0, h, _ => absurd h (Nat.not_lt_zero _)
  | n + 1, h, hn => by
    unfold yat
    by_cases q : j = n
    · subst q; rw [if_pos h1]
    · rw [if_neg]
      · exact yat_of v h1 h2 n (by omega) (by omega)
      · have := yfr_mono v (a := j + 1) (b := n) (by omega) (by omega)
        omega
/-- the sound of frame f, the shape of it -/
def ysA (r : Row) (f : Nat) : Nat := yat r (yn r) f
def ysh (r : Row) (f : Nat) : Int := vshp r (ysA r f)
theorem ysA_of {r : Row} (v : Yvd r) {f j : Nat} (hj : j < yn r) (h1 : ysm (yfr' r) j ≤ (f : Int)) (h2 : (f : Int) < ysm (yfr' r) (j + 1)) : ysA r f = j := yat_of v h1 h2 _ hj (Nat.le_refl _)
theorem yat_is {r : Row} {f : Nat} : ∀ n, (f : Int) < ysm (yfr' r) n → yat r n f < n ∧ ysm (yfr' r) (yat r n f) ≤ (f : Int) ∧ (f : Int) < ysm (yfr' r) (yat r n f + 1)
  | 0, h => by
    have : ysm (yfr' r) 0 = 0 := rfl
    omega
  | n + 1, h => by
    unfold yat
    by_cases q : ysm (yfr' r) n ≤ (f : Int)
    · rw [if_pos q]
      exact ⟨by omega, q, h⟩
    · rw [if_neg q]
      have := yat_is (r := r) (f := f) n (by omega)
      exact ⟨by omega, this.2⟩
theorem ysA_is {r : Row} (v : Yvd r) {f : Nat} (h : (f : Int) < yM r (yn r)) : ysA r f < yn r ∧ ysm (yfr' r) (ysA r f) ≤ (f : Int) ∧ (f : Int) < ysm (yfr' r) (ysA r f + 1) := yat_is _ (by rw [yfr_sum v]; exact h)
/-- holds: how many, the first frame of the one that stands, the longest, its first frame -/
def yhs (q : Nat → Int) : Nat → Int × Int × Int × Int
  | 0 => (0, 0, 0, 0)
  | k + 1 =>
    let s := yhs q k
    let h := if k = 0 ∨ q k ≠ q (k - 1) then s.1 + 1 else s.1
    let a := if k = 0 ∨ q k ≠ q (k - 1) then (k : Int) else s.2.1
    if s.2.2.1 < (k : Int) - a + 1 then (h, a, (k : Int) - a + 1, a) else (h, a, s.2.2.1, s.2.2.2)
theorem yhs_bd (q : Nat → Int) : ∀ k, (0 ≤ (yhs q k).1 ∧ (yhs q k).1 ≤ k) ∧ (0 ≤ (yhs q k).2.1 ∧ (yhs q k).2.1 ≤ k) ∧ (0 ≤ (yhs q k).2.2.1 ∧ (yhs q k).2.2.1 ≤ k) ∧ (0 ≤ (yhs q k).2.2.2 ∧ (yhs q k).2.2.2 ≤ k)
  | 0 => by
    show ((0 : Int) ≤ 0 ∧ (0 : Int) ≤ ((0 : Nat) : Int)) ∧ ((0 : Int) ≤ 0 ∧ (0 : Int) ≤ ((0 : Nat) : Int)) ∧ ((0 : Int) ≤ 0 ∧ (0 : Int) ≤ ((0 : Nat) : Int)) ∧ ((0 : Int) ≤ 0 ∧ (0 : Int) ≤ ((0 : Nat) : Int))
    omega
  | k + 1 => by
    have ih := yhs_bd q k
    simp only [yhs]
    generalize yhs q k = s at ih
    obtain ⟨s1, s2, s3, s4⟩ := s
    simp only at ih ⊢
    have hc : ((k + 1 : Nat) : Int) = (k : Int) + 1 := rfl
    rw [hc]
    repeat' split
    all_goals (simp only; omega)
