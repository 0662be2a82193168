/-! fractions; off, pulled -/
section FRACS
variable {S L : Nat} {F G : Nat → Nat → Int} {h : Nat → Nat → Option Nat} {Q : Option V2 → W2 → Prop}
theorem ymul_bd {x y A B : Int} (hx : 0 ≤ x ∧ x ≤ A) (hy : 0 ≤ y ∧ y ≤ B) : 0 ≤ x * y ∧ x * y ≤ A * B :=
  ⟨Int.mul_nonneg hx.1 hy.1, Int.mul_le_mul hx.2 hy.2 hy.1 (by omega)⟩
theorem gcd_step {a b : Nat} (hb : b ≠ 0) : Nat.gcd a b = Nat.gcd b (a % b) := by
  rw [Nat.gcd_comm a b, Nat.gcd_rec b a, Nat.gcd_comm]
theorem half_rem {a b : Nat} (hb : 0 < b) (hr : 0 < a % b) : 2 * (b % (a % b)) < b := by
  have h1 : a % b < b := Nat.mod_lt _ hb
  have h2 : b % (a % b) < a % b := Nat.mod_lt _ hr
  rcases Nat.lt_or_ge b (2 * (a % b)) with q | q
  · have : b % (a % b) = b - a % b := by
      rw [Nat.mod_eq_sub_mod (Nat.le_of_lt h1), Nat.mod_eq_of_lt (by omega)]
    omega
  · omega
theorem L107 (hh : RfH h) : ∀ (k a b s : Nat), a < 2 ^ 48 → b < 2 ^ k → b < 2 ^ 48 → s + 2 * k ≤ 98 → Q (some (vj (Nat.gcd a b : Int))) (Wd S L F G h) → C107_3 (a : Int) (b : Int) (s : Int) (Wd S L F G h) Q
  | 0, a, b, s, ha, hb, hb2, hs, H => by
    have : b = 0 := by omega
    subst this
    refine T107_3 hh ⟨by omega, ?_⟩
    rw [if_neg (by omega)]
    refine ⟨by omega, ?_⟩
    rw [if_pos (by omega)]
    rw [Nat.gcd_zero_right] at H
    exact H
  | k + 1, a, b, s, ha, hb, hb2, hs, H => by
    refine T107_3 hh ⟨by omega, ?_⟩
    rw [if_neg (by omega)]
    refine ⟨by omega, ?_⟩
    by_cases q : b = 0
    · subst q
      rw [if_pos (by omega)]
      rw [Nat.gcd_zero_right] at H
      exact H
    · rw [if_neg (by omega)]
      refine ⟨by omega, ?_⟩
      rw [gcd_step q] at H
      have hlt : a % b < b := Nat.mod_lt _ (by omega)
      have e1 : (a : Int) % (b : Int) = ((a % b : Nat) : Int) := rfl
      have e2 : (s : Int) + 1 = ((s + 1 : Nat) : Int) := rfl
      rw [e1, e2]
      refine T107_3 hh ⟨by omega, ?_⟩
      rw [if_neg (by omega)]
      refine ⟨by omega, ?_⟩
      by_cases q2 : a % b = 0
      · rw [if_pos (by omega)]
        rw [q2, Nat.gcd_zero_right] at H
        exact H
      · rw [if_neg (by omega)]
        refine ⟨by omega, ?_⟩
        rw [gcd_step q2] at H
        have h2 := half_rem (a := a) (b := b) (by omega) (by omega)
        have e3 : (b : Int) % ((a % b : Nat) : Int) = ((b % (a % b) : Nat) : Int) := rfl
        have e4 : ((s + 1 : Nat) : Int) + 1 = ((s + 2 : Nat) : Int) := rfl
        rw [e3, e4]
        exact L107 hh k (a % b) (b % (a % b)) (s + 2) (by omega) (by omega) (by omega) (by omega) H
/-- above or below of a fraction in lowest terms -/
def yfr (a b w : Int) : Int := if w = 0 then a / (Nat.gcd a.toNat b.toNat : Int) else b / (Nat.gcd a.toNat b.toNat : Int)
theorem ygcd_bd {a b : Int} (ha : 0 ≤ a) (hb : 1 ≤ b) : 1 ≤ (Nat.gcd a.toNat b.toNat : Int) ∧ (Nat.gcd a.toNat b.toNat : Int) ≤ b := by
  have h1 : 0 < Nat.gcd a.toNat b.toNat := Nat.gcd_pos_of_pos_right _ (by omega)
  have h2 : Nat.gcd a.toNat b.toNat ≤ b.toNat := Nat.gcd_le_right _ (by omega)
  omega
theorem yfr_bd {a b w M : Int} (ha : 0 ≤ a ∧ a ≤ M) (hb : 1 ≤ b ∧ b ≤ M) : 0 ≤ yfr a b w ∧ yfr a b w ≤ M := by
  have hg := ygcd_bd (a := a) (b := b) ha.1 hb.1
  unfold yfr
  split
  · exact ⟨Int.ediv_nonneg ha.1 (by omega), Int.le_trans (Int.ediv_le_self _ ha.1) ha.2⟩
  · exact ⟨Int.ediv_nonneg (by omega) (by omega), Int.le_trans (Int.ediv_le_self _ (by omega)) hb.2⟩
theorem yfr_mul {a b c w : Int} (ha : 0 ≤ a) (hb : 1 ≤ b) (hc : 1 ≤ c) : yfr (a * c) (b * c) w = yfr a b w := by
  have hg := ygcd_bd (a := a) (b := b) ha hb
  have e : (Nat.gcd (a * c).toNat (b * c).toNat : Int) = (Nat.gcd a.toNat b.toNat : Int) * c := by
    have e1 : (a * c).toNat = a.toNat * c.toNat := by
      rw [Int.toNat_mul ha (by omega)]
    have e2 : (b * c).toNat = b.toNat * c.toNat := by
      rw [Int.toNat_mul (by omega) (by omega)]
    rw [e1, e2, Nat.gcd_mul_right, Int.natCast_mul, Int.toNat_of_nonneg (by omega)]
  unfold yfr
  rw [e]
  split
  · exact Int.mul_ediv_mul_of_pos_left _ _ (by omega)
  · exact Int.mul_ediv_mul_of_pos_left _ _ (by omega)
theorem K105 (hh : RfH h) {a b w : Int} (ha : 0 ≤ a ∧ a ≤ 100000000000) (hb : 1 ≤ b ∧ b ≤ 100000000000) (rw' : R32 w) (H : Q (some (vj (yfr a b w))) (Wd S L F G h)) : C105_0 a b w (Wd S L F G h) Q := by
  have hg := ygcd_bd (a := a) (b := b) ha.1 hb.1
  have eg : ∀ Q' : Option V2 → W2 → Prop, Q' (some (vj (Nat.gcd a.toNat b.toNat : Int))) (Wd S L F G h) → C107_0 a b (Wd S L F G h) Q' := fun Q' hq => by
    refine T107_0 hh ?_
    have := L107 (F := F) (G := G) (S := S) (L := L) (h := h) (Q := Q') hh 48 a.toNat b.toNat 0 (by omega) (by omega) (by omega) (by omega) hq
    rw [show ((a.toNat : Nat) : Int) = a by omega, show ((b.toNat : Nat) : Int) = b by omega] at this
    exact this
  unfold yfr at H
  refine T105_0 hh ⟨rw', ?_⟩
  split
  · rename_i c
    rw [if_pos c] at H
    refine eg _ ⟨_, rfl, rfl, by omega, ?_⟩
    rw [if_neg (by omega)]
    exact ⟨by omega, H⟩
  · rename_i c
    rw [if_neg c] at H
    refine eg _ ⟨_, rfl, rfl, by omega, ?_⟩
    rw [if_neg (by omega)]
    exact ⟨by omega, H⟩
/-! off -/
def sOffD (r : Row) (i : Nat) : Int := ymk (ysm (fun k => r (58 + k)) i) (r 2) (r 3) * r 2 - ysm (fun k => r (58 + k)) i * r 3
def sOff (r : Row) (i w : Int) : Int := if 0 ≤ i ∧ i < r 0 ∧ 0 ≤ w ∧ w ≤ 1 then yfr (if 0 ≤ sOffD r i.toNat then sOffD r i.toNat else 0 - sOffD r i.toNat) (r 2) w else -1
theorem sOffD_bd {r : Row} (v : Yvd r) {i : Nat} (hi : i ≤ 12) : -100000 ≤ sOffD r i ∧ sOffD r i ≤ 100000 := by
  have h1 := ysm_bd12 v hi
  have h2 := ymk_bd (t := ysm (fun k => r (58 + k)) i) (a := r 2) (b := r 3) (by omega) v.lo v.by
  have hlo := v.lo
  have hby := v.by
  have h3 := ymul_bd (x := ymk (ysm (fun k => r (58 + k)) i) (r 2) (r 3)) (y := r 2) (A := 4012) (B := 12) h2 (by omega)
  have h4 := ymul_bd (x := ysm (fun k => r (58 + k)) i) (y := r 3) (A := 144) (B := 2) h1 (by omega)
  unfold sOffD
  omega
theorem R32_sOff {r : Row} (v : Yvd r) (i w : Int) : R32 (sOff r i w) := by
  unfold sOff
  split
  · rename_i c
    have hn := v.n
    have h1 := sOffD_bd v (i := i.toNat) (by omega)
    have hlo := v.lo
    have := yfr_bd (a := if 0 ≤ sOffD r i.toNat then sOffD r i.toNat else 0 - sOffD r i.toNat) (b := r 2) (w := w) (M := 100000) (by split <;> omega) (by omega)
    omega
  · exact r32m1
theorem K80 (hh : RfH h) {r : Row} (t : Ytk F 1 r) (v : Yvd r) {i w : Int} (ri : R32 i) (rw' : R32 w) (H : ∀ x, x = sOff r i w → Q (some (vi x)) (Wd S L F G h)) : C80_0 i w (Wd S L F G h) Q := by
  have hn := v.n
  have hlo := v.lo
  have hby := v.by
  refine T80_0 hh ⟨ri, ?_⟩
  simp only [t.n1, t.lo1, t.by1]
  split
  · exact H _ (by unfold sOff; rw [if_neg (by omega)])
  refine ⟨by omega, ?_⟩
  split
  · exact H _ (by unfold sOff; rw [if_neg (by omega)])
  refine ⟨rw', ?_⟩
  have h1 := ysm_bd12 v (n := i.toNat) (by omega)
  have hd := sOffD_bd v (i := i.toNat) (by omega)
  have ed : ymk (ysm (fun k => r (58 + k)) i.toNat) (r 2) (r 3) * r 2 - ysm (fun k => r (58 + k)) i.toNat * r 3 = sOffD r i.toNat := rfl
  split
  · refine K27 hh t (by omega) ⟨_, rfl, rfl, K29 hh (by omega) hlo hby ⟨_, rfl, rfl, ?_⟩⟩
    rw [ed]
    refine ⟨by omega, by split <;> omega, by omega, ?_⟩
    refine K105 hh (by split <;> omega) (by omega) rw' ⟨_, rfl, rfl, H _ ?_⟩
    unfold sOff
    have hin : 0 ≤ i ∧ i < r 0 ∧ 0 ≤ w ∧ w ≤ 1 := by omega
    rw [if_pos hin]
  · split
    · refine K27 hh t (by omega) ⟨_, rfl, rfl, K29 hh (by omega) hlo hby ⟨_, rfl, rfl, ?_⟩⟩
      rw [ed]
      refine ⟨by omega, by split <;> omega, by omega, ?_⟩
      refine K105 hh (by split <;> omega) (by omega) rw' ⟨_, rfl, rfl, H _ ?_⟩
      unfold sOff
      have hin : 0 ≤ i ∧ i < r 0 ∧ 0 ≤ w ∧ w ≤ 1 := by omega
      rw [if_pos hin]
    · exact H _ (by unfold sOff; rw [if_neg (by omega)])
/-! pulled -/
def vshp (r : Row) (i : Nat) : Int := r (22 + (r (46 + i)).toNat)
def vval (r : Row) (i : Nat) (ax : Int) : Int := if ax = 0 then r (6 + (vshp r i).toNat) else r (14 + (vshp r i).toNat)
def vpul (r : Row) (i : Nat) : Int := r (34 + (r (46 + i)).toNat)
def vcl (r : Row) (i : Nat) : Prop := r (6 + (vshp r i).toNat) = 0
theorem vshp_bd {r : Row} (v : Yvd r) {i : Nat} (hi : i < 12) : 0 ≤ vshp r i ∧ vshp r i < 8 := v.sh _ (by have := v.sg i hi; omega)
theorem vval_bd {r : Row} (v : Yvd r) {i : Nat} (hi : i < 12) (ax : Int) : 0 ≤ vval r i ax ∧ vval r i ax ≤ 12 := by
  have := vshp_bd v hi
  unfold vval
  split
  · exact v.op _ (by omega)
  · exact v.wd _ (by omega)
theorem vpul_bd {r : Row} (v : Yvd r) {i : Nat} (hi : i < 12) : 0 ≤ vpul r i ∧ vpul r i ≤ 5 := v.pu _ (by have := v.sg i hi; omega)
def pIn (r : Row) (k : Int) : Prop := 0 ≤ k ∧ k < r 0
def pA (r : Row) (k ax : Int) : Int := if 0 ≤ k ∧ k < r 0 then vpul r k.toNat * vval r k.toNat ax else 0
def pB (r : Row) (k : Int) : Int := if 0 ≤ k ∧ k < r 0 then vpul r k.toNat else 0
theorem pA_bd {r : Row} (v : Yvd r) (k ax : Int) : 0 ≤ pA r k ax ∧ pA r k ax ≤ 60 := by
  have hn := v.n
  unfold pA
  split
  · have := ymul_bd (vpul_bd v (i := k.toNat) (by omega)) (vval_bd v (i := k.toNat) (by omega) ax)
    omega
  · omega
theorem pB_bd {r : Row} (v : Yvd r) (k : Int) : 0 ≤ pB r k ∧ pB r k ≤ 5 := by
  have hn := v.n
  unfold pB
  split
  · exact vpul_bd v (by omega)
  · omega
def pAb (r : Row) (i ax : Int) : Int := if ax = 0 ∧ r (6 + (vshp r i.toNat).toNat) = 0 then 0 else 3 * vval r i.toNat ax + pA r (i - 1) ax + pA r (i + 1) ax
def pBe (r : Row) (i : Int) : Int := 3 + pB r (i - 1) + pB r (i + 1)
theorem pAb_bd {r : Row} (v : Yvd r) {i : Int} (hi : 0 ≤ i ∧ i < 12) (ax : Int) : 0 ≤ pAb r i ax ∧ pAb r i ax ≤ 156 := by
  have h1 := vval_bd v (i := i.toNat) (by omega) ax
  have h2 := pA_bd v (i - 1) ax
  have h3 := pA_bd v (i + 1) ax
  unfold pAb
  split <;> omega
theorem pBe_bd {r : Row} (v : Yvd r) (i : Int) : 3 ≤ pBe r i ∧ pBe r i ≤ 13 := by
  have h2 := pB_bd v (i - 1)
  have h3 := pB_bd v (i + 1)
  unfold pBe
  omega
/-- all that PULLED can be divided by -/
theorem parts_div {b : Int} (hb : 3 ≤ b ∧ b ≤ 13) : ∃ c : Int, 27720 ≤ c ∧ c ≤ 120120 ∧ 360360 = b * c ∧ 360360 / b = c := by
  have : b = 3 ∨ b = 4 ∨ b = 5 ∨ b = 6 ∨ b = 7 ∨ b = 8 ∨ b = 9 ∨ b = 10 ∨ b = 11 ∨ b = 12 ∨ b = 13 := by omega
  rcases this with rfl | rfl | rfl | rfl | rfl | rfl | rfl | rfl | rfl | rfl | rfl
  · exact ⟨120120, by decide, by decide, by decide, by decide⟩
  · exact ⟨90090, by decide, by decide, by decide, by decide⟩
  · exact ⟨72072, by decide, by decide, by decide, by decide⟩
  · exact ⟨60060, by decide, by decide, by decide, by decide⟩
  · exact ⟨51480, by decide, by decide, by decide, by decide⟩
  · exact ⟨45045, by decide, by decide, by decide, by decide⟩
  · exact ⟨40040, by decide, by decide, by decide, by decide⟩
  · exact ⟨36036, by decide, by decide, by decide, by decide⟩
  · exact ⟨32760, by decide, by decide, by decide, by decide⟩
  · exact ⟨30030, by decide, by decide, by decide, by decide⟩
  · exact ⟨27720, by decide, by decide, by decide, by decide⟩
/-- PULLED, in whole parts -/
def pPt (r : Row) (i ax : Int) : Int := pAb r i ax * (360360 / pBe r i)
theorem pPt_bd {r : Row} (v : Yvd r) {i : Int} (hi : 0 ≤ i ∧ i < 12) (ax : Int) : 0 ≤ pPt r i ax ∧ pPt r i ax ≤ 18738720 := by
  obtain ⟨c, h1, h2, h3, h4⟩ := parts_div (pBe_bd v i)
  unfold pPt
  rw [h4]
  have := ymul_bd (x := pAb r i ax) (y := c) (A := 156) (B := 120120) (pAb_bd v hi ax) (by omega)
  omega
theorem pPt_eq {r : Row} (v : Yvd r) (i x : Int) : x * 360360 / pBe r i = x * (360360 / pBe r i) := by
  obtain ⟨c, h1, h2, h3, h4⟩ := parts_div (pBe_bd v i)
  have hb := pBe_bd v i
  rw [h4]
  conv => lhs; rw [h3]
  rw [show x * (pBe r i * c) = x * c * pBe r i by rw [Int.mul_comm (pBe r i) c, Int.mul_assoc]]
  exact Int.mul_ediv_cancel _ (by omega)
theorem yfr_pPt {r : Row} (v : Yvd r) {i : Int} (hi : 0 ≤ i ∧ i < 12) (ax w : Int) : yfr (pPt r i ax) 360360 w = yfr (pAb r i ax) (pBe r i) w := by
  obtain ⟨c, h1, h2, h3, h4⟩ := parts_div (pBe_bd v i)
  have ha := pAb_bd v hi ax
  have hb := pBe_bd v i
  unfold pPt
  rw [h4]
  conv => lhs; rw [h3]
  exact yfr_mul ha.1 (by omega) (by omega)
theorem K25v (hh : RfH h) {r : Row} (t : Ytk F 1 r) (v : Yvd r) {i : Nat} (hi : i < 12) {a : Int} (ra : R32 a) (H : Q (some (vi (vval r i a))) (Wd S L F G h)) : C25_0 (r (46 + i)) a (Wd S L F G h) Q := by
  have := v.sg i hi
  exact K25 hh t v this ra H
/-- a neighbour's part of the component's sum -/
theorem step10 (hh : RfH h) {r : Row} (t : Ytk F 1 r) (v : Yvd r) {i ax x y k : Int} (hi : 0 ≤ i ∧ i < 12) (rax : R32 ax) (hk : k = i - 1 ∨ k = i + 1) (H : C10_39 i ax (x + pA r k ax) (y + pB r k) (k + 2) (Wd S L F G h) Q) : C10_39 i ax x y k (Wd S L F G h) Q := by
  have hn := v.n
  refine T10_39 hh ⟨by omega, by omega, ?_⟩
  rw [if_neg (by omega)]
  unfold pA pB at H
  split
  · rw [if_neg (by omega), if_neg (by omega), Int.add_zero, Int.add_zero] at H
    exact H
  simp only [t.n1]
  refine ⟨by omega, ?_⟩
  split
  · rw [if_neg (by omega), if_neg (by omega), Int.add_zero, Int.add_zero] at H
    exact H
  · rw [if_pos (by omega), if_pos (by omega)] at H
    have e1 := t.sg1 k.toNat (by omega)
    have h1 := v.sg k.toNat (by omega)
    have e2 := t.pu1 (r (46 + k.toNat)).toNat (by omega)
    rw [e1, e2]
    exact ⟨by omega, by omega, K25v hh t v (by omega) rax ⟨_, rfl, rfl, H⟩⟩
theorem K10 (hh : RfH h) {r : Row} (t : Ytk F 1 r) (v : Yvd r) {i ax : Int} (hi : 0 ≤ i ∧ i < 12) (rax : R32 ax) (H : Q (some (vj (pPt r i ax))) (Wd S L F G h)) : C10_0 i ax (Wd S L F G h) Q := by
  have e1 := t.sg1 i.toNat (by omega)
  have h1 := v.sg i.toNat (by omega)
  have e2 := t.sh1 (r (46 + i.toNat)).toNat (by omega)
  have h2 := vshp_bd v (i := i.toNat) (by omega)
  have e3 := t.op1 (vshp r i.toNat).toNat (by omega)
  have h3 := v.op (vshp r i.toNat).toNat (by omega)
  have h4 := vval_bd v (i := i.toNat) (by omega) ax
  have h5 := pA_bd v (i - 1) ax
  have h6 := pA_bd v (i + 1) ax
  have h7 := pBe_bd v i
  have go : ¬ (ax = 0 ∧ r (6 + (vshp r i.toNat).toNat) = 0) → C10_39 i ax (3 * vval r i.toNat ax) 3 (i - 1) (Wd S L F G h) Q := fun hne => by
    refine step10 hh t v hi rax (Or.inl rfl) ?_
    rw [show i - 1 + 2 = i + 1 by omega]
    refine step10 hh t v hi rax (Or.inr rfl) ?_
    refine T10_39 hh ⟨by omega, by omega, ?_⟩
    rw [if_pos (by omega)]
    have eb : 3 + pB r (i - 1) + pB r (i + 1) = pBe r i := rfl
    have ea : 3 * vval r i.toNat ax + pA r (i - 1) ax + pA r (i + 1) ax = pAb r i ax := by unfold pAb; rw [if_neg hne]
    have ha := pAb_bd v hi ax
    rw [ea, eb]
    refine ⟨by omega, by omega, ?_⟩
    rw [if_neg (by omega)]
    refine ⟨by omega, ?_⟩
    rw [pPt_eq v]
    exact H
  refine T10_0 hh ⟨by omega, rax, ?_⟩
  rw [e1]
  have ev : r (22 + (r (46 + i.toNat)).toNat) = vshp r i.toNat := rfl
  split
  · rename_i c
    rw [e2, ev, e3]
    refine ⟨by omega, by omega, by omega, ?_⟩
    split
    · rename_i c2
      have : pPt r i ax = 0 := by
        unfold pPt pAb
        rw [if_pos ⟨c, c2⟩, Int.zero_mul]
      rw [this] at H
      exact H
    · rename_i c2
      exact K25v hh t v (by omega) rax ⟨_, rfl, rfl, go (fun e => c2 e.2)⟩
  · rename_i c
    exact K25v hh t v (by omega) rax ⟨_, rfl, rfl, go (fun e => c e.1)⟩
def sPulled (r : Row) (i ax w : Int) : Int := if 0 ≤ i ∧ i < r 0 ∧ 0 ≤ ax ∧ ax ≤ 1 ∧ 0 ≤ w ∧ w ≤ 1 then yfr (pAb r i ax) (pBe r i) w else -1
theorem R32_sPulled {r : Row} (v : Yvd r) (i ax w : Int) : R32 (sPulled r i ax w) := by
  have hn := v.n
  unfold sPulled
  split
  · have h1 := pAb_bd v (i := i) (by omega) ax
    have h2 := pBe_bd v i
    have := yfr_bd (a := pAb r i ax) (b := pBe r i) (w := w) (M := 156) h1 (by omega)
    omega
  · exact r32m1
theorem K76 (hh : RfH h) {r : Row} (t : Ytk F 1 r) (v : Yvd r) {i ax w : Int} (ri : R32 i) (ra : R32 ax) (rw' : R32 w) (H : ∀ x, x = sPulled r i ax w → Q (some (vi x)) (Wd S L F G h)) : C76_0 i ax w (Wd S L F G h) Q := by
  have hn := v.n
  have bad : ¬ (0 ≤ i ∧ i < r 0 ∧ 0 ≤ ax ∧ ax ≤ 1 ∧ 0 ≤ w ∧ w ≤ 1) → Q (some (vi (-1))) (Wd S L F G h) := fun hb => H _ (by unfold sPulled; rw [if_neg hb])
  refine T76_0 hh ⟨ri, ?_⟩
  simp only [t.n1]
  split
  · exact bad (by omega)
  refine ⟨by omega, ?_⟩
  split
  · exact bad (by omega)
  have h0 := pPt_bd v (i := i) (by omega) ax
  have go : 0 ≤ ax ∧ ax ≤ 1 → 0 ≤ w ∧ w ≤ 1 → C10_0 i ax (Wd S L F G h) (fun v w1 => ∃ (v9 : Int), v = some (vj v9) ∧ w1 = (Wd S L F G h) ∧
      C105_0 v9 360360 w (Wd S L F G h) (fun v w1 => ∃ (v10 : Int), v = some (vj v10) ∧ w1 = (Wd S L F G h) ∧
       Q (some (vi v10)) (Wd S L F G h))) := fun h1 h2 => by
    refine K10 hh t v (by omega) ra ⟨_, rfl, rfl, K105 hh (by omega) (by decide) rw' ⟨_, rfl, rfl, H _ ?_⟩⟩
    unfold sPulled
    rw [if_pos (by omega), yfr_pPt v (by omega)]
  refine ⟨ra, ?_⟩
  split
  · refine ⟨rw', ?_⟩
    split
    · exact go (by omega) (by omega)
    · split
      · exact go (by omega) (by omega)
      · exact bad (by omega)
  · split
    · refine ⟨rw', ?_⟩
      split
      · exact go (by omega) (by omega)
      · split
        · exact go (by omega) (by omega)
        · exact bad (by omega)
    · exact bad (by omega)
end FRACS
