/-! fractions in lowest terms; the bounds of what is pulled, smooth, of jumps -/
theorem yfr_n (a b : Nat) : yfr (a : Int) (b : Int) 0 = ((a / Nat.gcd a b : Nat) : Int) ∧ yfr (a : Int) (b : Int) 1 = ((b / Nat.gcd a b : Nat) : Int) := by
  unfold yfr
  rw [if_pos rfl, if_neg (by decide)]
  exact ⟨rfl, rfl⟩
theorem yfr_split {a b : Int} (ha : 0 ≤ a) (hb : 1 ≤ b) : ∃ g : Int, 1 ≤ g ∧ a = yfr a b 0 * g ∧ b = yfr a b 1 * g ∧ 0 ≤ yfr a b 0 ∧ 1 ≤ yfr a b 1 ∧ Nat.gcd (yfr a b 0).natAbs (yfr a b 1).toNat = 1 := by
  obtain ⟨m, rfl⟩ : ∃ m : Nat, a = (m : Int) := ⟨a.toNat, by omega⟩
  obtain ⟨k, rfl⟩ : ∃ k : Nat, b = (k : Int) := ⟨b.toNat, by omega⟩
  have hk : 0 < k := by omega
  have hg : 0 < Nat.gcd m k := Nat.gcd_pos_of_pos_right m hk
  obtain ⟨e0, e1⟩ := yfr_n m k
  rw [e0, e1]
  have d1 : m / Nat.gcd m k * Nat.gcd m k = m := Nat.div_mul_cancel (Nat.gcd_dvd_left m k)
  have d2 : k / Nat.gcd m k * Nat.gcd m k = k := Nat.div_mul_cancel (Nat.gcd_dvd_right m k)
  have c1 : Nat.gcd (m / Nat.gcd m k) (k / Nat.gcd m k) = 1 := Nat.gcd_div_gcd_div_gcd_of_pos_right hk
  have p1 : 0 < k / Nat.gcd m k := Nat.div_pos (Nat.le_of_dvd hk (Nat.gcd_dvd_right m k)) hg
  generalize m / Nat.gcd m k = x at *
  generalize k / Nat.gcd m k = y at *
  generalize Nat.gcd m k = z at *
  refine ⟨(z : Int), by omega, ?_, ?_, by omega, by omega, ?_⟩
  · rw [← Int.natCast_mul, d1]
  · rw [← Int.natCast_mul, d2]
  · exact c1
theorem mul_le_r {a b c : Int} (h : a ≤ b) (hc : 0 ≤ c) : a * c ≤ b * c := Int.mul_le_mul_of_nonneg_right h hc
/-- no greater part, no greater fraction: as the law compares them -/
theorem yfr_cmp {D J M : Int} (h0 : 0 ≤ D) (h1 : D ≤ J) (hM : 1 ≤ M) : yfr D M 0 / yfr D M 1 < yfr J M 0 / yfr J M 1 ∨ (yfr D M 0 / yfr D M 1 = yfr J M 0 / yfr J M 1 ∧ (yfr D M 0 % yfr D M 1) * yfr J M 1 ≤ (yfr J M 0 % yfr J M 1) * yfr D M 1) := by
  obtain ⟨g, g1, g2, g3, g4, g5, -⟩ := yfr_split (a := D) (b := M) h0 hM
  obtain ⟨e, e1, e2, e3, e4, e5, -⟩ := yfr_split (a := J) (b := M) (by omega) hM
  generalize yfr D M 0 = p at g2 g4 ⊢
  generalize yfr D M 1 = q at g3 g5 ⊢
  generalize yfr J M 0 = u at e2 e4 ⊢
  generalize yfr J M 1 = v at e3 e5 ⊢
  have hge : 0 < g * e := Int.mul_pos (by omega) (by omega)
  have x : p * v ≤ u * q := by
    refine Int.le_of_mul_le_mul_right (a := g * e) ?_ hge
    have a1 : p * v * (g * e) = (p * g) * (v * e) := by ac_rfl
    have a2 : u * q * (g * e) = (u * e) * (q * g) := by ac_rfl
    rw [a1, a2, ← g2, ← e3, ← e2, ← g3]
    exact mul_le_r h1 (by omega)
  have kp := Int.mul_ediv_add_emod p q
  have ku := Int.mul_ediv_add_emod u v
  have l1 : p / q * q ≤ p := Int.ediv_mul_le p (by omega)
  have le : p / q ≤ u / v := by
    refine Int.le_ediv_of_mul_le (by omega) ?_
    refine Int.le_of_mul_le_mul_right (a := q) ?_ (by omega)
    have a1 : p / q * v * q = p / q * q * v := by ac_rfl
    rw [a1]
    exact Int.le_trans (mul_le_r l1 (by omega)) x
  by_cases c : p / q < u / v
  · exact Or.inl c
  · have eq : p / q = u / v := by omega
    refine Or.inr ⟨eq, ?_⟩
    have m1 : p % q = p - q * (p / q) := by omega
    have m2 : u % v = u - v * (p / q) := by rw [eq]; omega
    rw [m1, m2, Int.sub_mul, Int.sub_mul]
    have a1 : q * (p / q) * v = v * (p / q) * q := by ac_rfl
    rw [a1]
    omega
/-- a bound by a whole number -/
theorem yfr_whole {J M k : Int} (h0 : 0 ≤ J) (hM : 1 ≤ M) (h : J ≤ k * M) : yfr J M 0 ≤ k * yfr J M 1 := by
  obtain ⟨e, e1, e2, e3, e4, e5, -⟩ := yfr_split (a := J) (b := M) h0 hM
  refine Int.le_of_mul_le_mul_right (a := e) ?_ (by omega)
  rw [← e2, Int.mul_assoc, ← e3]
  exact h
/-- the difference of two fractions of the same whole, as the law makes it -/
theorem yfr_diff {A C M : Int} (hA : 0 ≤ A) (hC : 0 ≤ C) (hM : 1 ≤ M) : ∃ t : Int, 1 ≤ t ∧ 1 ≤ (Nat.gcd (yfr A M 1).natAbs (yfr C M 1).toNat : Int) ∧ 1 ≤ yfr A M 1 / (Nat.gcd (yfr A M 1).natAbs (yfr C M 1).toNat : Int) * yfr C M 1 ∧
    yfr A M 1 / (Nat.gcd (yfr A M 1).natAbs (yfr C M 1).toNat : Int) * yfr C M 1 * t = M ∧
    (yfr A M 0 * (yfr A M 1 / (Nat.gcd (yfr A M 1).natAbs (yfr C M 1).toNat : Int) * yfr C M 1 / yfr A M 1) - yfr C M 0 * (yfr A M 1 / (Nat.gcd (yfr A M 1).natAbs (yfr C M 1).toNat : Int) * yfr C M 1 / yfr C M 1)) * t = A - C := by
  obtain ⟨gA, a1, a2, a3, a4, a5, -⟩ := yfr_split (a := A) (b := M) hA hM
  obtain ⟨gC, c1, c2, c3, c4, c5, -⟩ := yfr_split (a := C) (b := M) hC hM
  generalize yfr A M 0 = a at a2 a4 ⊢
  generalize yfr A M 1 = b at a3 a5 ⊢
  generalize yfr C M 0 = c at c2 c4 ⊢
  generalize yfr C M 1 = d at c3 c5 ⊢
  obtain ⟨m, rfl⟩ : ∃ m : Nat, b = (m : Int) := ⟨b.toNat, by omega⟩
  obtain ⟨k, rfl⟩ : ∃ k : Nat, d = (k : Int) := ⟨d.toNat, by omega⟩
  obtain ⟨N, rfl⟩ : ∃ N : Nat, M = (N : Int) := ⟨M.toNat, by omega⟩
  have en : Nat.gcd ((m : Nat) : Int).natAbs ((k : Nat) : Int).toNat = Nat.gcd m k := rfl
  rw [en]
  have hm : 0 < m := by omega
  have hk : 0 < k := by omega
  have hg : 0 < Nat.gcd m k := Nat.gcd_pos_of_pos_right m hk
  obtain ⟨b', hb'⟩ := Nat.gcd_dvd_left m k
  obtain ⟨d', hd'⟩ := Nat.gcd_dvd_right m k
  have dA : m ∣ N := ⟨gA.toNat, by
    have : (N : Int) = ((m * gA.toNat : Nat) : Int) := by rw [Int.natCast_mul, Int.toNat_of_nonneg (by omega)]; exact a3
    exact Int.ofNat.inj this⟩
  have dC : k ∣ N := ⟨gC.toNat, by
    have : (N : Int) = ((k * gC.toNat : Nat) : Int) := by rw [Int.natCast_mul, Int.toNat_of_nonneg (by omega)]; exact c3
    exact Int.ofNat.inj this⟩
  obtain ⟨t, ht⟩ := Nat.lcm_dvd dA dC
  have hl : Nat.lcm m k = b' * k := by
    refine Nat.eq_of_mul_eq_mul_left hg ?_
    rw [Nat.gcd_mul_lcm, ← Nat.mul_assoc, ← hb']
  rw [hl] at ht
  generalize Nat.gcd m k = g at hg hb' hd' ⊢
  have hgi : (0 : Int) < (g : Int) := by omega
  have em : (m : Int) = (g : Int) * (b' : Int) := by rw [← Int.natCast_mul, ← hb']
  have ek : (k : Int) = (g : Int) * (d' : Int) := by rw [← Int.natCast_mul, ← hd']
  have eN : (N : Int) = (b' : Int) * (k : Int) * (t : Int) := by rw [ht, Int.natCast_mul, Int.natCast_mul]
  have hbp : 0 < b' := by
    rcases Nat.eq_zero_or_pos b' with q | q
    · rw [q, Nat.mul_zero] at hb'; omega
    · exact q
  have htp : 0 < t := by
    rcases Nat.eq_zero_or_pos t with q | q
    · rw [q, Nat.mul_zero] at ht; omega
    · exact q
  have q1 : (m : Int) / (g : Int) = (b' : Int) := by rw [em]; exact Int.mul_ediv_cancel_left _ (by omega)
  have q2 : (b' : Int) * (k : Int) / (m : Int) = (d' : Int) := by
    have e : (b' : Int) * (k : Int) = (m : Int) * (d' : Int) := by rw [em, ek]; ac_rfl
    rw [e]; exact Int.mul_ediv_cancel_left _ (by omega)
  have q3 : (b' : Int) * (k : Int) / (k : Int) = (b' : Int) := Int.mul_ediv_cancel _ (by omega)
  have ga : gA = (d' : Int) * (t : Int) := by
    refine Int.eq_of_mul_eq_mul_right (a := (m : Int)) (by omega) ?_
    have e : gA * (m : Int) = (N : Int) := by rw [Int.mul_comm]; exact a3.symm
    rw [e, eN, ek, em]; ac_rfl
  have gc : gC = (b' : Int) * (t : Int) := by
    refine Int.eq_of_mul_eq_mul_right (a := (k : Int)) (by omega) ?_
    have e : gC * (k : Int) = (N : Int) := by rw [Int.mul_comm]; exact c3.symm
    rw [e, eN]; ac_rfl
  rw [q1, q2, q3]
  have pos : 0 < (b' : Int) * (k : Int) := Int.mul_pos (by omega) (by omega)
  refine ⟨(t : Int), by omega, by omega, by omega, eN.symm, ?_⟩
  rw [a2, c2, ga, gc, Int.sub_mul, Int.mul_assoc, Int.mul_assoc]
theorem pA_12 {r : Row} (v : Yvd r) (k ax : Int) : pA r k ax ≤ 12 * pB r k := by
  have hn := v.n
  unfold pA pB
  split
  · have h1 := vval_bd v (i := k.toNat) (by omega) ax
    have h2 := vpul_bd v (i := k.toNat) (by omega)
    have h3 : vpul r k.toNat * vval r k.toNat ax ≤ vpul r k.toNat * 12 := Int.mul_le_mul_of_nonneg_left h1.2 h2.1
    omega
  · omega
theorem pAb_12 {r : Row} (v : Yvd r) {i : Int} (hi : 0 ≤ i ∧ i < 12) (ax : Int) : pAb r i ax ≤ 12 * pBe r i := by
  have h1 := pA_12 v (i - 1) ax
  have h2 := pA_12 v (i + 1) ax
  have h3 := vval_bd v (i := i.toNat) (by omega) ax
  have h4 := pB_bd v (i - 1)
  have h5 := pB_bd v (i + 1)
  unfold pAb pBe
  split <;> omega
theorem pPt_12 {r : Row} (v : Yvd r) {i : Int} (hi : 0 ≤ i ∧ i < 12) (ax : Int) : 0 ≤ pPt r i ax ∧ pPt r i ax ≤ 4324320 := by
  obtain ⟨c, h1, h2, h3, h4⟩ := parts_div (pBe_bd v i)
  have ha := pAb_bd v hi ax
  have hb := pAb_12 v hi ax
  unfold pPt
  rw [h4]
  have m : pAb r i ax * c ≤ 12 * pBe r i * c := mul_le_r hb (by omega)
  have e : 12 * pBe r i * c = 12 * (pBe r i * c) := Int.mul_assoc _ _ _
  exact ⟨Int.mul_nonneg ha.1 (by omega), by omega⟩
theorem sSm_12 {r : Row} (v : Yvd r) (ax : Int) {f : Nat} {w : Int} (hf : (f : Int) < yM r (yn r)) (hw : 0 ≤ w ∧ w ≤ 3) : 0 ≤ sSm r ax f w ∧ sSm r ax f w ≤ 1816214400 := by
  have hwin := win (T := yM r (yn r)) (f := (f : Int)) (w := w) (by omega) hw
  have hb := sSm_bd v ax hf hw
  refine ⟨hb.1, ?_⟩
  unfold sSm
  split
  · omega
  · have h1 := ysm_bd (f := fun k => pPt r (ysA r ((sFi f w).toNat + k) : Int) ax) (c := 4324320) (n := (sLa (yM r (yn r)) f w - sFi f w + 1).toNat) (fun k hk => by
      have h1 := (ysA_is v (f := (sFi f w).toNat + k) (by omega)).1
      have h2 := yn_le v
      exact pPt_12 v (i := (ysA r ((sFi f w).toNat + k) : Int)) (by omega) ax)
    obtain ⟨d1, d2, d3⟩ := div420 (c := sLa (yM r (yn r)) f w - sFi f w + 1) (by omega)
    have ec : (((sLa (yM r (yn r)) f w - sFi f w + 1).toNat : Nat) : Int) = sLa (yM r (yn r)) f w - sFi f w + 1 := by omega
    rw [ec] at h1
    generalize sLa (yM r (yn r)) f w - sFi f w + 1 = c at h1 d1 d2 d3 ⊢
    have m : sSu r ax (sFi f w).toNat c.toNat * (420 / c) ≤ c * 4324320 * (420 / c) := mul_le_r h1.2 (by omega)
    have e : c * 4324320 * (420 / c) = 4324320 * (c * (420 / c)) := by ac_rfl
    omega
def dD (r : Row) (ax w : Int) (j : Nat) : Int := sAbs (sSm r ax j w - sSm r ax (j - 1) w)
theorem sJu_s (r : Row) (ax w : Int) (k : Nat) : sJu r ax w (k + 1) = if dD r ax w (k + 1) ≤ sJu r ax w k then sJu r ax w k else dD r ax w (k + 1) := rfl
theorem dD_12 {r : Row} (v : Yvd r) (ax : Int) {j : Nat} {w : Int} (hf : (j : Int) < yM r (yn r)) (hw : 0 ≤ w ∧ w ≤ 3) : 0 ≤ dD r ax w j ∧ dD r ax w j ≤ 1816214400 := by
  have h1 := sSm_12 v ax (f := j) hf hw
  have h2 := sSm_12 v ax (f := j - 1) (w := w) (by omega) hw
  unfold dD sAbs
  split <;> omega
theorem sJu_12 {r : Row} (v : Yvd r) (ax : Int) {w : Int} (hw : 0 ≤ w ∧ w ≤ 3) : ∀ k : Nat, ((k : Int) < yM r (yn r) ∨ k = 0) → 0 ≤ sJu r ax w k ∧ sJu r ax w k ≤ 1816214400
  | 0, _ => by show (0 : Int) ≤ 0 ∧ (0 : Int) ≤ 1816214400; omega
  | k + 1, h => by
    have ih := sJu_12 v ax hw k (by omega)
    have h1 := dD_12 v ax (j := k + 1) (w := w) (by omega) hw
    rw [sJu_s]
    split <;> omega
theorem sJu_ge (r : Row) (ax w : Int) : ∀ (k j : Nat), 1 ≤ j → j ≤ k → dD r ax w j ≤ sJu r ax w k
  | 0, j, h1, h2 => by omega
  | k + 1, j, h1, h2 => by
    rw [sJu_s]
    by_cases q : j = k + 1
    · rw [q]
      split <;> omega
    · have ih := sJu_ge r ax w k j h1 (by omega)
      split <;> omega
theorem sJu_at {r : Row} (v : Yvd r) (ax : Int) {w : Int} (hw : 0 ≤ w ∧ w ≤ 3) : ∀ k : Nat, 1 ≤ k → (k : Int) < yM r (yn r) → ∃ j, 1 ≤ j ∧ j ≤ k ∧ dD r ax w j = sJu r ax w k
  | 0, h, _ => absurd h (by decide)
  | k + 1, _, h => by
    have h1 := dD_12 v ax (j := k + 1) (w := w) (by omega) hw
    rw [sJu_s]
    by_cases q : dD r ax w (k + 1) ≤ sJu r ax w k
    · rw [if_pos q]
      by_cases k0 : k = 0
      · subst k0
        have e : sJu r ax w 0 = 0 := rfl
        rw [e] at q ⊢
        have h1' : 0 ≤ dD r ax w 1 := h1.1
        have q' : dD r ax w 1 ≤ 0 := q
        exact ⟨1, by decide, by decide, by omega⟩
      · obtain ⟨j, a, b, c⟩ := sJu_at v ax hw k (by omega) (by omega)
        exact ⟨j, a, by omega, c⟩
    · rw [if_neg q]
      exact ⟨k + 1, by omega, Nat.le_refl _, rfl⟩
theorem sSm_0 {r : Row} (v : Yvd r) (ax : Int) {f : Nat} (hf : (f : Int) < yM r (yn r)) : sSm r ax f 0 = pPt r (ysA r f : Int) ax * 420 := by
  have e1 : sFi (f : Int) 0 = (f : Int) := by unfold sFi; rw [if_pos (by omega)]; omega
  have e2 : sLa (yM r (yn r)) (f : Int) 0 = (f : Int) := by unfold sLa; rw [if_pos (by omega)]; omega
  unfold sSm
  rw [e1, e2]
  by_cases c : ax = 0 ∧ r (6 + (vshp r (ysA r f)).toNat) = 0
  · rw [if_pos c]
    have e : ((ysA r f : Nat) : Int).toNat = ysA r f := by omega
    unfold pPt pAb
    rw [e, if_pos c]
    omega
  · rw [if_neg c]
    have e3 : (f : Int) - (f : Int) + 1 = 1 := by omega
    rw [e3]
    have e4 : ((f : Nat) : Int).toNat = f := by omega
    rw [e4]
    show (0 + pPt r (ysA r (f + 0) : Int) ax) * (420 / 1) = _
    rw [Int.zero_add]
    rfl
theorem sCal_is (r : Row) (ax x : Int) : ∀ d k, k + d ≤ 4 → sCal r ax x k d = -4 ∨ ∃ j : Nat, sCal r ax x k d = (j : Int) ∧ k ≤ j ∧ j < 4 ∧ sJu r ax (j : Int) ((yM r (yn r)).toNat - 1) ≤ x * 151351200
  | 0, k, _ => Or.inl rfl
  | d + 1, k, h => by
    have e : sCal r ax x k (d + 1) = if x * 151351200 < sJu r ax (k : Int) ((yM r (yn r)).toNat - 1) then sCal r ax x (k + 1) d else (k : Int) := rfl
    rw [e]
    by_cases c : x * 151351200 < sJu r ax (k : Int) ((yM r (yn r)).toNat - 1)
    · rw [if_pos c]
      rcases sCal_is r ax x d (k + 1) (by omega) with q | ⟨j, a, b, c2, d2⟩
      · exact Or.inl q
      · exact Or.inr ⟨j, a, by omega, c2, d2⟩
    · rw [if_neg c]
      exact Or.inr ⟨k, rfl, Nat.le_refl _, by omega, by omega⟩
/-- how far off: by half a frame at most -/
theorem ymk_near {t a b : Int} (ha : 1 ≤ a) : 2 * (ymk t a b * a - t * b) ≤ a ∧ 2 * (t * b - ymk t a b * a) ≤ a := by
  unfold ymk
  have h1 := Int.mul_ediv_self_le (x := 2 * t * b + a) (k := 2 * a) (by omega)
  have h2 := Int.lt_mul_ediv_self_add (x := 2 * t * b + a) (k := 2 * a) (by omega)
  generalize (2 * t * b + a) / (2 * a) = m at h1 h2 ⊢
  have e1 : 2 * a * m = 2 * (m * a) := by rw [Int.mul_assoc, Int.mul_comm a m]
  have e2 : 2 * t * b = 2 * (t * b) := Int.mul_assoc _ _ _
  rw [e1, e2] at h1 h2
  generalize m * a = u at h1 h2 ⊢
  generalize t * b = w at h1 h2 ⊢
  omega
