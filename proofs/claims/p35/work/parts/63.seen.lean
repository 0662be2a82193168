/-! seen: the law's check of what is pulled, smooth, of jumps, calm, off -/
theorem abs_le_t {e t X : Int} (ht : 1 ≤ t) (h : -X ≤ e * t ∧ e * t ≤ X) (hX : 0 ≤ X) : -X ≤ e ∧ e ≤ X := by
  by_cases c : 0 ≤ e
  · have := Int.mul_le_mul_of_nonneg_left (c := e) ht c
    omega
  · have := Int.mul_le_mul_of_nonneg_left (c := -e) ht (by omega)
    rw [Int.neg_mul, Int.neg_mul] at this
    omega
theorem le_t {e t : Int} (ht : 1 ≤ t) (h : 0 ≤ e) : e ≤ e * t := by
  have := Int.mul_le_mul_of_nonneg_left (c := e) ht h
  omega
theorem yfr_abs (x l : Int) (hx : 0 ≤ x) : x / (Nat.gcd x.natAbs l.toNat : Int) = yfr x l 0 ∧ l / (Nat.gcd x.natAbs l.toNat : Int) = yfr x l 1 := by
  have e : x.natAbs = x.toNat := by omega
  rw [e]
  unfold yfr
  rw [if_pos rfl, if_neg (by decide)]
  exact ⟨rfl, rfl⟩
theorem sJump_in {r : Row} {ax w : Int} (hax : ax = 0 ∨ ax = 1) (hw : w = 0 ∨ w = 1) : sJump r ax w = yfr (sJu r ax (r 4) ((yM r (yn r)).toNat - 1)) 151351200 w := by
  unfold sJump; rw [if_pos (by omega)]
theorem sSmooth_in {r : Row} {ax w : Int} {f : Nat} (hf : (f : Int) < yM r (yn r)) (hax : ax = 0 ∨ ax = 1) (hw : w = 0 ∨ w = 1) : sSmooth r (f : Int) ax w = yfr (sSm r ax f (r 4)) 151351200 w := by
  unfold sSmooth; rw [if_pos (by omega)]; rfl
theorem sPulled_in {r : Row} {ax w : Int} {i : Nat} (hi : (i : Int) < r 0) (hax : ax = 0 ∨ ax = 1) (hw : w = 0 ∨ w = 1) : sPulled r (i : Int) ax w = yfr (pAb r (i : Int) ax) (pBe r (i : Int)) w := by
  unfold sPulled; rw [if_pos (by omega)]
theorem calm12 {r : Row} (v : Yvd r) {ax : Int} (hax : ax = 0 ∨ ax = 1) : sCalm r ax 12 = 0 := by
  have hT := yM_n v
  have J0 := sJu_12 v ax (w := ((0 : Nat) : Int)) (by decide) ((yM r (yn r)).toNat - 1) (by omega)
  unfold sCalm
  rw [if_pos (by omega)]
  have e : sCal r ax 12 0 4 = if 12 * 151351200 < sJu r ax ((0 : Nat) : Int) ((yM r (yn r)).toNat - 1) then sCal r ax 12 1 3 else ((0 : Nat) : Int) := rfl
  rw [e, if_neg (by omega)]
  rfl
section SEENL
variable {S L : Nat} {h : Nat → Nat → Option Nat} {Q : Option V2 → W2 → Prop} {r : Row} {n : Nat} {R : Nat → Row} {F0 : Nat → Nat → Int} {ax : Int}
theorem l118_646 (hax : ax = 0 ∨ ax = 1) (K : ∀ F G, Oy F h r n R → Ob F0 F → Q (some (vi 1)) (Wd S L F G h)) {F G : Nat → Nat → Int} (o : Oy F h r n R) (b : Ob F0 F) : C118_646 ax (r 0) (yM r (yn r)) (r 4) (sJump r ax 0) (sJump r ax 1) (sCalm r ax 3) (Wd S L F G h) Q := by
  have v := o.v
  have hn := v.n
  have hT := yM_n v
  have hwi := v.wi
  have c1 : sCalm r ax 13 = -1 := by unfold sCalm; rw [if_neg (by omega)]
  have c2 : sCalm r 2 0 = -1 := by unfold sCalm; rw [if_neg (by omega)]
  have c3 : sJump r 2 0 = -1 := by unfold sJump; rw [if_neg (by omega)]
  have c4 : sSmooth r (yM r (yn r)) ax 0 = -1 := by unfold sSmooth; rw [if_neg (by omega)]
  have c5 : sPulled r (r 0) ax 0 = -1 := by unfold sPulled; rw [if_neg (by omega)]
  have r12 : R32 (sCalm r ax 3) := R32_sCalm r ax 3
  have J := sJu_12 v ax (w := r 4) hwi ((yM r (yn r)).toNat - 1) (by omega)
  refine T118_646 o.hh ?_
  refine k79 o (by omega) (by decide) (fun F1 G1 o b1 => ⟨by rw [c1]; decide, c1, ?_⟩)
  refine k79 o (by decide) (by decide) (fun F2 G2 o b2 => ⟨by rw [c2]; decide, c2, ?_⟩)
  refine k78 o (by decide) (by decide) (fun F3 G3 o b3 => ⟨by rw [c3]; decide, c3, ?_⟩)
  refine k77 o (by omega) (by omega) (by decide) (fun F4 G4 o b4 => ⟨by rw [c4]; decide, c4, ?_⟩)
  refine k76 o (by omega) (by omega) (by decide) ⟨by rw [c5]; decide, c5, r12, ?_⟩
  have fin := K F4 G4 o ((((b.tr b1).tr b2).tr b3).tr b4)
  by_cases d1 : sCalm r ax 3 < 0
  · rw [if_pos d1]; exact fin
  rw [if_neg d1]
  refine ⟨by omega, ?_⟩
  by_cases d2 : r 4 < sCalm r ax 3
  · rw [if_pos d2]; exact fin
  rw [if_neg d2]
  by_cases d3 : sCalm r ax 3 < r 4
  · rw [if_pos d3]; exact fin
  rw [if_neg d3]
  have es : sCalm r ax 3 = sCal r ax 3 0 4 := by unfold sCalm; rw [if_pos (by omega)]
  have hJ : sJu r ax (r 4) ((yM r (yn r)).toNat - 1) ≤ 3 * 151351200 := by
    rcases sCal_is r ax 3 4 0 (by decide) with q | ⟨j, q1, -, -, q2⟩
    · omega
    · have ej : (j : Int) = r 4 := by omega
      rw [ej] at q2
      exact q2
  have w1 := yfr_bd (a := sJu r ax (r 4) ((yM r (yn r)).toNat - 1)) (b := 151351200) (w := 0) (M := 1816214400) J (by decide)
  have w2 := yfr_bd (a := sJu r ax (r 4) ((yM r (yn r)).toNat - 1)) (b := 151351200) (w := 1) (M := 1816214400) J (by decide)
  have w3 := yfr_whole J.1 (M := 151351200) (k := 3) (by decide) hJ
  rw [sJump_in hax (Or.inl rfl), sJump_in hax (Or.inr rfl)]
  exact ⟨⟨by omega, by omega⟩, ⟨by omega, by omega⟩, by omega, fin⟩
theorem l118_437 (hax : ax = 0 ∨ ax = 1) {f : Nat} (hf1 : 1 ≤ f) (hfT : (f : Int) < yM r (yn r)) {l x22 t x10 : Int} (hl : 1 ≤ l) (ht : 1 ≤ t) (hlt : l * t = 151351200) (hx : 0 ≤ x22) (hxt : x22 * t = dD r ax (r 4) f) (h10 : x10 = 0 ∨ x10 = 1) {F G : Nat → Nat → Int} (o : Oy F h r n R) (b : Ob F0 F)
    (K2 : ∀ y, (y = 1 ∨ (y = 0 ∧ x10 = 0 ∧ dD r ax (r 4) f ≠ sJu r ax (r 4) ((yM r (yn r)).toNat - 1))) → C118_219 ax (r 0) (yM r (yn r)) (r 4) (sJump r ax 0) (sJump r ax 1) y ((f : Int) + 1) (Wd S L F G h) Q) :
    C118_437 ax (r 0) (yM r (yn r)) (r 4) (sJump r ax 0) (sJump r ax 1) x10 (f : Int) l x22 (Wd S L F G h) Q := by
  have v := o.v
  have hT := yM_n v
  have hwi := v.wi
  have D := dD_12 v ax (j := f) hfT hwi
  have J := sJu_12 v ax (w := r 4) hwi ((yM r (yn r)).toNat - 1) (by omega)
  have DJ := sJu_ge r ax (r 4) ((yM r (yn r)).toNat - 1) f hf1 (by omega)
  have hll := le_t (e := l) ht (by omega)
  have hxx := le_t (e := x22) ht hx
  have p0 : yfr (dD r ax (r 4) f) 151351200 0 = yfr x22 l 0 := by rw [← hxt, ← hlt]; exact yfr_mul hx hl ht
  have p1 : yfr (dD r ax (r 4) f) 151351200 1 = yfr x22 l 1 := by rw [← hxt, ← hlt]; exact yfr_mul hx hl ht
  obtain ⟨a0, a1⟩ := yfr_abs x22 l hx
  have cmp := yfr_cmp (D := dD r ax (r 4) f) (J := sJu r ax (r 4) ((yM r (yn r)).toNat - 1)) (M := 151351200) D.1 DJ (by decide)
  obtain ⟨g, g1, g2, g3, g4, g5, -⟩ := yfr_split (a := dD r ax (r 4) f) (b := 151351200) D.1 (by decide)
  obtain ⟨e, e1, e2, e3, e4, e5, -⟩ := yfr_split (a := sJu r ax (r 4) ((yM r (yn r)).toNat - 1)) (b := 151351200) J.1 (by decide)
  have pb := yfr_bd (a := dD r ax (r 4) f) (b := 151351200) (w := 0) (M := 1816214400) D (by decide)
  have qb := le_t (e := yfr (dD r ax (r 4) f) 151351200 1) g1 (by omega)
  have ub := yfr_bd (a := sJu r ax (r 4) ((yM r (yn r)).toNat - 1)) (b := 151351200) (w := 0) (M := 1816214400) J (by decide)
  have vb := le_t (e := yfr (sJu r ax (r 4) ((yM r (yn r)).toNat - 1)) 151351200 1) e1 (by omega)
  have hgl : 0 < l.toNat := by omega
  have hg : 0 < Nat.gcd x22.natAbs l.toNat := Nat.gcd_pos_of_pos_right _ hgl
  have hg2 : Nat.gcd x22.natAbs l.toNat ≤ l.toNat := Nat.le_of_dvd hgl (Nat.gcd_dvd_right _ _)
  have j0 := sJump_in (r := r) hax (w := 0) (Or.inl rfl)
  have j1 := sJump_in (r := r) hax (w := 1) (Or.inr rfl)
  have same : dD r ax (r 4) f = sJu r ax (r 4) ((yM r (yn r)).toNat - 1) → yfr (dD r ax (r 4) f) 151351200 0 = sJump r ax 0 ∧ yfr (dD r ax (r 4) f) 151351200 1 = sJump r ax 1 := fun q => by rw [j0, j1, q]; exact ⟨rfl, rfl⟩
  rw [← j0, ← j1] at cmp
  rw [← j0] at ub e4
  rw [← j1] at vb e5 e3
  rw [← p0] at a0
  rw [← p1] at a1
  generalize hp : yfr (dD r ax (r 4) f) 151351200 0 = p at a0 cmp same pb g2 g4
  generalize hq : yfr (dD r ax (r 4) f) 151351200 1 = q at a1 cmp same qb g3 g5
  generalize sJump r ax 0 = u at *
  generalize sJump r ax 1 = w at *
  refine T118_437 o.hh ?_
  refine k114 o.hh (by omega) (by omega) ?_
  rw [a0, a1]
  have dp := Int.ediv_nonneg (a := p) (b := q) (by omega) (by omega)
  have dp2 := Int.ediv_le_self (a := p) q (by omega)
  have du := Int.ediv_nonneg (a := u) (b := w) (by omega) (by omega)
  have du2 := Int.ediv_le_self (a := u) w (by omega)
  have mp := Int.emod_nonneg p (b := q) (by omega)
  have mp2 := Int.emod_lt_of_pos p (b := q) (by omega)
  have mu := Int.emod_nonneg u (b := w) (by omega)
  have mu2 := Int.emod_lt_of_pos u (b := w) (by omega)
  have z1 := ymul_bd (x := p % q) (y := w) (A := 151351200) (B := 151351200) (by omega) (by omega)
  have z2 := ymul_bd (x := u % w) (y := q) (A := 151351200) (B := 151351200) (by omega) (by omega)
  refine ⟨by omega, by omega, by omega, by omega, ⟨by omega, by omega⟩, ⟨by omega, by omega⟩, ?_⟩
  have s518 : C118_518 ax (r 0) (yM r (yn r)) (r 4) u w x10 (f : Int) l x22 (Nat.gcd x22.natAbs l.toNat : Int) (Wd S L F G h) Q := by
    refine T118_518 o.hh ⟨by omega, ?_⟩
    rw [a0, a1]
    by_cases c : x10 = 0
    · rw [if_pos c]
      refine ⟨by omega, ⟨by omega, by omega⟩, ⟨by omega, by omega⟩, ?_⟩
      by_cases c1 : p = u
      · rw [if_pos c1]
        refine ⟨by omega, ⟨by omega, by omega⟩, ⟨by omega, by omega⟩, ?_⟩
        by_cases c2 : q = w
        · rw [if_pos c2]
          exact K2 1 (Or.inl rfl)
        · rw [if_neg c2]
          exact K2 0 (Or.inr ⟨rfl, c, fun x => c2 (same x).2⟩)
      · rw [if_neg c1]
        exact K2 0 (Or.inr ⟨rfl, c, fun x => c1 (same x).1⟩)
    · rw [if_neg c]
      exact K2 1 (Or.inl rfl)
  rcases cmp with c | ⟨c1, c2⟩
  · rw [if_pos c]
    exact s518
  · rw [if_neg (by omega)]
    exact ⟨c1, ⟨by omega, by omega⟩, ⟨by omega, by omega⟩, by omega, s518⟩
theorem l118_219 (hax : ax = 0 ∨ ax = 1) (K : ∀ F G, Oy F h r n R → Ob F0 F → Q (some (vi 1)) (Wd S L F G h)) : ∀ (m f : Nat) (F G : Nat → Nat → Int) (x10 : Int), f + m = (yM r (yn r)).toNat → Oy F h r n R → Ob F0 F →
    (x10 = 1 ∨ (x10 = 0 ∧ 2 ≤ (yM r (yn r)).toNat ∧ ∀ k, 1 ≤ k → k < f → dD r ax (r 4) k ≠ sJu r ax (r 4) ((yM r (yn r)).toNat - 1))) → C118_219 ax (r 0) (yM r (yn r)) (r 4) (sJump r ax 0) (sJump r ax 1) x10 (f : Int) (Wd S L F G h) Q
  | 0, f, F, G, x10, e, o, b, inv => by
    have v := o.v
    have hT := yM_n v
    have hwi := v.wi
    have J := sJu_12 v ax (w := r 4) hwi ((yM r (yn r)).toNat - 1) (by omega)
    have w1 := yfr_bd (a := sJu r ax (r 4) ((yM r (yn r)).toNat - 1)) (b := 151351200) (w := 0) (M := 1816214400) J (by decide)
    have w2 := yfr_bd (a := sJu r ax (r 4) ((yM r (yn r)).toNat - 1)) (b := 151351200) (w := 1) (M := 1816214400) J (by decide)
    have w3 := yfr_whole J.1 (M := 151351200) (k := 12) (by decide) (by omega)
    have h10 : ¬ x10 = 0 := by
      intro q
      rcases inv with i | ⟨i1, i2, i3⟩
      · omega
      · obtain ⟨j, j1, j2, j3⟩ := sJu_at v ax hwi ((yM r (yn r)).toNat - 1) (by omega) (by omega)
        exact i3 j j1 (by omega) j3
    have j0 := sJump_in (r := r) hax (w := 0) (Or.inl rfl)
    have j1 := sJump_in (r := r) hax (w := 1) (Or.inr rfl)
    rw [← j0] at w1
    rw [← j1] at w2
    rw [← j0, ← j1] at w3
    refine T118_219 o.hh ⟨by omega, by omega, ?_⟩
    rw [if_pos (by omega)]
    refine k79 o (by omega) (by decide) (fun F1 G1 o b1 => ?_)
    refine k79 o (by omega) (by decide) (fun F2 G2 o b2 => ?_)
    refine ⟨by omega, h10, ⟨by omega, by omega⟩, by omega, ⟨by omega, by omega⟩, by omega, ?_⟩
    rw [calm12 v hax]
    have s623 : C118_623 ax (r 0) (yM r (yn r)) (r 4) (sJump r ax 0) (sJump r ax 1) 0 (sCalm r ax 3) (Wd S L F2 G2 h) Q := by
      have s := l118_646 (S := S) (L := L) (G := G2) hax K o ((b.tr b1).tr b2)
      refine T118_623 o.hh ⟨by decide, rfl, R32_sCalm r ax 3, ?_⟩
      by_cases c : sCalm r ax 3 = -4
      · rw [if_pos c]; exact s
      · rw [if_neg c]
        have es : sCalm r ax 3 = sCal r ax 3 0 4 := by unfold sCalm; rw [if_pos (by omega)]
        rcases sCal_is r ax 3 4 0 (by decide) with q | ⟨j, q1, q3, q4, q2⟩
        · omega
        · exact ⟨by omega, by omega, s⟩
    by_cases c : 1 < yM r (yn r)
    · rw [if_pos c]
      exact s623
    · rw [if_neg c]
      have ez : sJu r ax (r 4) ((yM r (yn r)).toNat - 1) = 0 := by
        have : (yM r (yn r)).toNat - 1 = 0 := by omega
        rw [this]; rfl
      have z0 : sJump r ax 0 = 0 := by rw [j0, ez]; decide
      have z1 : sJump r ax 1 = 1 := by rw [j1, ez]; decide
      exact ⟨z0, ⟨by omega, by omega⟩, z1, s623⟩
  | m + 1, f, F, G, x10, e, o, b, inv => by
    have v := o.v
    have hT := yM_n v
    have hn := v.n
    have hy := yn_le v
    have hwi := v.wi
    have hf : (f : Int) < yM r (yn r) := by omega
    have hA := sSm_12 v ax (f := f) hf hwi
    obtain ⟨g, g1, g2, g3, g4, g5, g6⟩ := yfr_split (a := sSm r ax f (r 4)) (b := 151351200) hA.1 (by decide)
    have aw := yfr_whole hA.1 (M := 151351200) (k := 12) (by decide) (by omega)
    have ab := yfr_bd (a := sSm r ax f (r 4)) (b := 151351200) (w := 0) (M := 1816214400) hA (by decide)
    have bb := le_t (e := yfr (sSm r ax f (r 4)) 151351200 1) g1 (by omega)
    have h10 : x10 = 0 ∨ x10 = 1 := by
      rcases inv with i | ⟨i1, -⟩
      · exact Or.inr i
      · exact Or.inl i1
    have ec : (f : Int) + 1 = ((f + 1 : Nat) : Int) := by omega
    have sA := ysA_is v hf
    refine T118_219 o.hh ⟨by omega, by omega, ?_⟩
    rw [if_neg (by omega)]
    refine k77 o (by omega) (by omega) (by decide) (fun F1 G1 o b1 => ?_)
    refine k77 o (by omega) (by omega) (by decide) (fun F2 G2 o b2 => ?_)
    rw [sSmooth_in hf hax (Or.inl rfl), sSmooth_in hf hax (Or.inr rfl)]
    refine ⟨⟨by omega, by omega⟩, by omega, ⟨by omega, by omega⟩, by omega, ⟨by omega, by omega⟩, by omega, ?_⟩
    refine k114 o.hh (by omega) (by omega) ?_
    rw [g6]
    refine ⟨by decide, rfl, by omega, ?_⟩
    have b12 := (b.tr b1).tr b2
    have s352 : ∀ F, Oy F h r n R → Ob F0 F → C118_352 ax (r 0) (yM r (yn r)) (r 4) (sJump r ax 0) (sJump r ax 1) x10 (f : Int) (yfr (sSm r ax f (r 4)) 151351200 0) (yfr (sSm r ax f (r 4)) 151351200 1) (Wd S L F G2 h) Q := fun F3 o b3 => by
      refine T118_352 o.hh ⟨by omega, ?_⟩
      by_cases f0 : f = 0
      · rw [if_pos (by omega), ec]
        refine l118_219 hax K m (f + 1) F3 G2 x10 (by omega) o b3 ?_
        rcases inv with i | ⟨i1, i2, i3⟩
        · exact Or.inl i
        · exact Or.inr ⟨i1, i2, fun k k1 k2 => by omega⟩
      · rw [if_neg (by omega)]
        have ep : (f : Int) - 1 = ((f - 1 : Nat) : Int) := by omega
        have hp : ((f - 1 : Nat) : Int) < yM r (yn r) := by omega
        have hC := sSm_12 v ax (f := f - 1) hp hwi
        obtain ⟨z, z1, z2, z3, z4, z5, -⟩ := yfr_split (a := sSm r ax (f - 1) (r 4)) (b := 151351200) hC.1 (by decide)
        have db := le_t (e := yfr (sSm r ax (f - 1) (r 4)) 151351200 1) z1 (by omega)
        obtain ⟨t, t1, t2, t3, t4, t5⟩ := yfr_diff hA.1 hC.1 (M := 151351200) (by decide)
        rw [ep]
        refine k77 o (by omega) (by omega) (by decide) (fun F4 G4 o b4 => ?_)
        refine k77 o (by omega) (by omega) (by decide) (fun F5 G5 o b5 => ?_)
        rw [sSmooth_in hp hax (Or.inl rfl), sSmooth_in hp hax (Or.inr rfl)]
        refine k114 o.hh (by omega) (by omega) ?_
        have hdt : 0 < (yfr (sSm r ax (f - 1) (r 4)) 151351200 1).toNat := by omega
        have hg2 : Nat.gcd (yfr (sSm r ax f (r 4)) 151351200 1).natAbs (yfr (sSm r ax (f - 1) (r 4)) 151351200 1).toNat ≤ (yfr (sSm r ax (f - 1) (r 4)) 151351200 1).toNat := Nat.le_of_dvd hdt (Nat.gcd_dvd_right _ _)
        generalize hl : yfr (sSm r ax f (r 4)) 151351200 1 / (Nat.gcd (yfr (sSm r ax f (r 4)) 151351200 1).natAbs (yfr (sSm r ax (f - 1) (r 4)) 151351200 1).toNat : Int) * yfr (sSm r ax (f - 1) (r 4)) 151351200 1 = l at t3 t4 t5 ⊢
        have ll := le_t (e := l) t1 (by omega)
        generalize he : yfr (sSm r ax f (r 4)) 151351200 0 * (l / yfr (sSm r ax f (r 4)) 151351200 1) - yfr (sSm r ax (f - 1) (r 4)) 151351200 0 * (l / yfr (sSm r ax (f - 1) (r 4)) 151351200 1) = d at t5 ⊢
        have dd := abs_le_t (X := 1816214400) t1 (e := d) (by omega) (by decide)
        have s437 : ∀ x22, 0 ≤ x22 → x22 * t = dD r ax (r 4) f → C118_437 ax (r 0) (yM r (yn r)) (r 4) (sJump r ax 0) (sJump r ax 1) x10 (f : Int) l x22 (Wd S L F5 G5 h) Q := fun x22 hx hxt => by
          refine l118_437 hax (by omega) hf t3 t1 t4 hx hxt h10 o ((b3.tr b4).tr b5) (fun y hy => ?_)
          rw [ec]
          refine l118_219 hax K m (f + 1) F5 G5 y (by omega) o ((b3.tr b4).tr b5) ?_
          rcases hy with hy | ⟨y1, y2, y3⟩
          · exact Or.inl hy
          · rcases inv with i | ⟨i1, i2, i3⟩
            · omega
            · refine Or.inr ⟨y1, i2, fun k k1 k2 => ?_⟩
              by_cases q : k = f
              · rw [q]; exact y3
              · exact i3 k k1 (by omega)
        refine ⟨by omega, by omega, by omega, ⟨by omega, by omega⟩, ?_⟩
        by_cases c : 0 ≤ d
        · rw [if_pos c]
          have nn := Int.mul_nonneg c (show (0 : Int) ≤ t by omega)
          exact s437 d c (by unfold dD sAbs; rw [if_pos (by omega)]; exact t5)
        · rw [if_neg c]
          have nn := Int.mul_nonneg (show (0 : Int) ≤ -d by omega) (show (0 : Int) ≤ t by omega)
          have nl := le_t (e := -d) t1 (by omega)
          rw [Int.neg_mul] at nn nl
          exact s437 (-d) (by omega) (by rw [Int.neg_mul]; unfold dD sAbs; rw [if_neg (by omega)]; omega)
    by_cases w0 : r 4 = 0
    · rw [if_pos w0]
      have sa : ((ysA r f : Nat) : Int) < r 0 := by have := sA.1; unfold yn at this; omega
      have pe : ∀ w', w' = 0 ∨ w' = 1 → yfr (sSm r ax f (r 4)) 151351200 w' = sPulled r (ysA r f : Int) ax w' := fun w' hw' => by
        rw [w0, sSm_0 v ax hf, sPulled_in sa hax hw', ← yfr_pPt v (by omega) ax w']
        exact yfr_mul (a := pPt r (ysA r f : Int) ax) (b := 360360) (c := 420) (pPt_12 v (by omega) ax).1 (by decide) (by decide)
      refine k74 o (by omega) (by decide) (fun F3 o b3 => ?_)
      rw [sA0 hf]
      refine k76 o (by omega) (by omega) (by decide) ⟨R32_sPulled v _ _ _, pe 0 (Or.inl rfl), ?_⟩
      refine k74 o (by omega) (by decide) (fun F4 o b4 => ?_)
      rw [sA0 hf]
      refine k76 o (by omega) (by omega) (by decide) ⟨R32_sPulled v _ _ _, pe 1 (Or.inr rfl), ?_⟩
      exact s352 F4 o ((b12.tr b3).tr b4)
    · rw [if_neg w0]
      exact s352 F2 o b12
theorem l118_26 (hax : ax = 0 ∨ ax = 1) (K : ∀ F G, Oy F h r n R → Ob F0 F → Q (some (vi 1)) (Wd S L F G h)) : ∀ (m i : Nat) (F G : Nat → Nat → Int), i + m = yn r → Oy F h r n R → Ob F0 F → C118_26 ax (r 0) (yM r (yn r)) (r 4) (i : Int) (Wd S L F G h) Q
  | 0, i, F, G, e, o, b => by
    have v := o.v
    have hn := v.n
    have hT := yM_n v
    have hr : r 0 = (yn r : Int) := by unfold yn; omega
    refine T118_26 o.hh ⟨by omega, by omega, ?_⟩
    rw [if_pos (by omega)]
    refine k78 o (by omega) (by decide) (fun F1 G1 o b1 => ?_)
    refine k78 o (by omega) (by decide) (fun F2 G2 o b2 => ?_)
    refine ⟨by omega, ?_⟩
    by_cases c : 2 ≤ yM r (yn r)
    · rw [if_pos c]
      exact l118_219 hax K (yM r (yn r)).toNat 0 F2 G2 0 (by omega) o ((b.tr b1).tr b2) (Or.inr ⟨rfl, by omega, fun k k1 k2 => by omega⟩)
    · rw [if_neg c]
      exact l118_219 hax K (yM r (yn r)).toNat 0 F2 G2 1 (by omega) o ((b.tr b1).tr b2) (Or.inl rfl)
  | m + 1, i, F, G, e, o, b => by
    have v := o.v
    have hn := v.n
    have hy := yn_le v
    have hi : i < yn r := by omega
    have hr : r 0 = (yn r : Int) := by unfold yn; omega
    have hir : (i : Int) < r 0 := by omega
    have ha := pAb_bd v (i := (i : Int)) (by omega) ax
    have hb := pBe_bd v (i : Int)
    obtain ⟨g, g1, g2, g3, g4, g5, g6⟩ := yfr_split (a := pAb r (i : Int) ax) (b := pBe r (i : Int)) ha.1 (by omega)
    have gw := yfr_whole ha.1 (M := pBe r (i : Int)) (k := 12) (by omega) (pAb_12 v (by omega) ax)
    have gb := le_t (e := yfr (pAb r (i : Int) ax) (pBe r (i : Int)) 1) g1 (by omega)
    have ga := le_t (e := yfr (pAb r (i : Int) ax) (pBe r (i : Int)) 0) g1 (by omega)
    have s131 : ∀ F, Oy F h r n R → Ob F0 F → C118_131 ax (r 0) (yM r (yn r)) (r 4) (i : Int) (Wd S L F G h) Q := fun F1 o b1 => by
      have t1 := ysm_bd12 v (n := i) (by omega)
      have hlo := v.lo
      have hD := sOffD_bd v (i := i) (by omega)
      have near := ymk_near (t := ysm (fun k => r (58 + k)) i) (a := r 2) (b := r 3) hlo.1
      have oi : ∀ w, w = 0 ∨ w = 1 → sOff r (i : Int) w = yfr (if 0 ≤ sOffD r i then sOffD r i else 0 - sOffD r i) (r 2) w := fun w hw => by
        unfold sOff; rw [if_pos (by omega)]; rfl
      have o2 : sOff r (i : Int) 2 = -1 := by unfold sOff; rw [if_neg (by omega)]
      have nd : 2 * (if 0 ≤ sOffD r i then sOffD r i else 0 - sOffD r i) ≤ r 2 := by
        have ed : sOffD r i = ymk (ysm (fun k => r (58 + k)) i) (r 2) (r 3) * r 2 - ysm (fun k => r (58 + k)) i * r 3 := rfl
        split <;> omega
      have d0 : 0 ≤ (if 0 ≤ sOffD r i then sOffD r i else 0 - sOffD r i) := by split <;> omega
      generalize hd : (if 0 ≤ sOffD r i then sOffD r i else 0 - sOffD r i) = d at oi nd d0
      obtain ⟨e, e1, e2, e3, e4, e5, -⟩ := yfr_split (a := d) (b := r 2) d0 hlo.1
      have le : 2 * yfr d (r 2) 0 ≤ yfr d (r 2) 1 := by
        refine Int.le_of_mul_le_mul_right (a := e) ?_ (by omega)
        rw [← e3, Int.mul_assoc, ← e2]
        exact nd
      have eb := le_t (e := yfr d (r 2) 1) e1 (by omega)
      refine T118_131 o.hh ?_
      refine k80 o (by omega) (by decide) ?_
      rw [oi 0 (Or.inl rfl)]
      refine ⟨by omega, by omega, ?_⟩
      refine k80 o (by omega) (by decide) ?_
      rw [oi 1 (Or.inr rfl)]
      refine ⟨by omega, by omega, by omega, ?_⟩
      refine k80 o (by omega) (by decide) ⟨by rw [o2]; decide, o2, ?_⟩
      rw [show (i : Int) + 1 = ((i + 1 : Nat) : Int) by omega]
      exact l118_26 hax K m (i + 1) F1 G (by omega) o b1
    refine T118_26 o.hh ⟨by omega, by omega, ?_⟩
    rw [if_neg (by omega)]
    refine k76 o (by omega) (by omega) (by decide) ?_
    refine k76 o (by omega) (by omega) (by decide) ?_
    rw [sPulled_in hir hax (Or.inl rfl), sPulled_in hir hax (Or.inr rfl)]
    refine ⟨by omega, by omega, by omega, by omega, by omega, by omega, by omega, ?_⟩
    refine k114 o.hh (by omega) (by omega) ?_
    rw [g6]
    refine ⟨by decide, rfl, by omega, ?_⟩
    by_cases c : ax = 1
    · rw [if_pos c]
      exact s131 F o b
    · rw [if_neg c]
      refine k73 o (by omega) (by decide) (fun F1 o b1 => ?_)
      have hs := v.sg i (by omega)
      rw [sS0 hi]
      refine k72 o (by omega) (by decide) ?_
      refine ⟨R32_sTold v _ _, ?_⟩
      rw [sT4 v (by omega)]
      by_cases c2 : r (6 + (vshp r i).toNat) = 0
      · rw [if_pos c2, if_neg (by decide)]
        have z : pAb r (i : Int) ax = 0 := by unfold pAb; rw [if_pos ⟨by omega, c2⟩]
        refine ⟨?_, s131 F1 o (b.tr b1)⟩
        rw [z]
        unfold yfr
        rw [if_pos rfl, Int.zero_ediv]
      · rw [if_neg c2, if_pos rfl]
        exact s131 F1 o (b.tr b1)
theorem k118 {F G : Nat → Nat → Int} (o : Oy F h r n R) (hax : ax = 0 ∨ ax = 1) {P : Int → (Nat → Nat → Int) → (Nat → Nat → Int) → Prop} (H : ∀ F' G', Oy F' h r n R → Ob F F' → P 1 F' G') : C118_0 ax (Wd S L F G h) (fun v w1 => ∃ (x : Int) (F' : Nat → Nat → Int) (G' : Nat → Nat → Int), v = some (vi x) ∧ w1 = (Wd S L F' G' h) ∧ P x F' G') := by
  refine T118_0 o.hh ?_
  refine k75 o (by decide) (fun F1 o b1 => ?_)
  refine k75 o (by decide) (fun F2 o b2 => ?_)
  refine k75 o (by decide) (fun F3 o b3 => ?_)
  exact l118_26 (F0 := F) hax (fun F' G' o' b' => ⟨_, F', G', rfl, rfl, H F' G' o' b'⟩) (yn r) 0 F3 G (by omega) o ((b1.tr b2).tr b3)
end SEENL
