/-! frames: the law's check of sounds, frames, holds -/
def zf (r : Row) (i : Nat) : Int := if yfr' r i = 0 then 1 else 0
theorem ysm_s (f : Nat → Int) (n : Nat) : ysm f (n + 1) = ysm f n + f n := rfl
theorem fk_s (r : Row) (n k : Nat) : fk r n (k + 1) = ldF r n (fk r n k) k := rfl
theorem fk_one {r : Row} {n i : Nat} (h1 : fk r n (i + 1) i = 1) : ∀ k, i < k → fk r n k i = 1
  | 0, h => absurd h (Nat.not_lt_zero _)
  | k + 1, h => by
    by_cases q : k = i
    · rw [q]; exact h1
    · have ih := fk_one h1 k (by omega)
      rw [fk_s]
      unfold ldF
      split
      · split
        · rename_i c
          have c2 := c.2
          simp only [yu1]
          rw [if_neg (by omega)]
          by_cases q2 : i = k - 1
          · rw [q2] at ih; omega
          · rw [if_neg q2]; exact ih
        · split
          · simp only [yu1]
            rw [if_neg (by omega), if_neg (by omega)]; exact ih
          · exact ih
      · exact ih
theorem yln_1 {r : Row} {i : Nat} (hi : i < yn r) (hl : yln r i ≠ 0) : r (6 + (vshp r i).toNat) = 0 ∧ yfr' r i = 1 := by
  unfold yln ldL at hl
  split at hl
  · rename_i c
    refine ⟨c.1, ?_⟩
    refine fk_one (r := r) (n := yn r) ?_ _ hi
    rw [fk_s]
    unfold ldF
    rw [if_pos c]
    split at hl
    · rename_i c2
      rw [if_pos c2]; simp [yu1]
    · rename_i c2
      rw [if_neg c2]
      split at hl
      · rename_i c3
        rw [if_pos c3]; simp [yu1]
      · exact absurd rfl hl
  · exact absurd rfl hl
theorem yln_a {r : Row} (v : Yvd r) {i : Nat} (hi : i < yn r) (hl : yln r i = 1) : 0 < i ∧ 0 < yfr' r (i - 1) := by
  unfold yln ldL at hl
  split at hl
  · split at hl
    · rename_i c2
      have c3 := c2.2
      refine ⟨c2.1, ?_⟩
      have z := yfr_zero v (i := i - 1) (by omega)
      rw [show i - 1 + 1 = i by omega] at z
      have b := yfr_bd' v (i := i - 1) (by omega)
      by_cases q : yfr' r (i - 1) = 0
      · have := z.mp q; omega
      · omega
    · split at hl <;> omega
  · omega
theorem yln_b {r : Row} (v : Yvd r) {i : Nat} (hl : yln r i = 2) : i + 1 < yn r ∧ 0 < yfr' r (i + 1) := by
  unfold yln ldL at hl
  split at hl
  · rename_i c
    split at hl
    · omega
    · rename_i c1
      split at hl
      · rename_i c2
        have c3 := c2.2
        refine ⟨c2.1, ?_⟩
        have e1 : fk r (yn r) (i + 1) (i + 1) = fk r (yn r) i (i + 1) - 1 := by
          rw [fk_s]
          unfold ldF
          rw [if_pos c, if_neg c1, if_pos c2]
          simp only [yu1]
          rw [if_neg (by omega)]
          simp
        have e2 : fk r (yn r) (i + 1 + 1) (i + 1) = fk r (yn r) (i + 1) (i + 1) := by
          rw [fk_s r (yn r) (i + 1)]
          unfold ldF
          rw [if_neg (fun q => by have := q.2; omega)]
        have z := yfr_zero v (i := i + 1) c2.1
        have b := yfr_bd' v (i := i + 1) c2.1
        by_cases q : yfr' r (i + 1) = 0
        · have := z.mp q
          rw [e2, e1] at this
          omega
        · omega
      · omega
  · omega
theorem ylo_i {r : Row} (v : Yvd r) {i : Nat} (hi : i < yn r) : ylo r i = if r (6 + (vshp r i).toNat) = 0 ∧ yfr' r i = 0 then 1 else 0 := by
  have z := yfr_zero v hi
  by_cases c : r (6 + (vshp r i).toNat) = 0 ∧ fk r (yn r) i i = 0
  · by_cases c1 : 0 < i ∧ 2 ≤ fk r (yn r) i (i - 1)
    · have e : fk r (yn r) (i + 1) i = 1 := by
        rw [fk_s]; unfold ldF; rw [if_pos c, if_pos c1]; simp [yu1]
      unfold ylo ldX
      rw [if_pos c, if_pos c1, if_neg (fun q => by have := z.mp q.2; omega)]
    · by_cases c2 : i + 1 < yn r ∧ 2 ≤ fk r (yn r) i (i + 1)
      · have e : fk r (yn r) (i + 1) i = 1 := by
          rw [fk_s]; unfold ldF; rw [if_pos c, if_neg c1, if_pos c2]; simp [yu1]
        unfold ylo ldX
        rw [if_pos c, if_neg c1, if_pos c2, if_neg (fun q => by have := z.mp q.2; omega)]
      · have e : fk r (yn r) (i + 1) i = 0 := by
          rw [fk_s]; unfold ldF; rw [if_pos c, if_neg c1, if_neg c2]; exact c.2
        unfold ylo ldX
        rw [if_pos c, if_neg c1, if_neg c2, if_pos ⟨c.1, z.mpr e⟩]
  · have e : fk r (yn r) (i + 1) i = fk r (yn r) i i := by
      rw [fk_s]; unfold ldF; rw [if_neg c]
    unfold ylo ldX
    rw [if_neg c, if_neg (fun q => c ⟨q.1, by rw [← e]; exact z.mp q.2⟩)]
theorem zf_sum {r : Row} (v : Yvd r) : ysm (zf r) (yn r) = ysm (yzr r) (yn r) := ysm_cong (fun i hi => by
  have z := yfr_zero v hi
  unfold zf yzr
  by_cases q : yfr' r i = 0
  · rw [if_pos q, if_pos (z.mp q)]
  · rw [if_neg q, if_neg (fun x => q (z.mpr x))])
theorem ysm_01 {f : Nat → Int} : ∀ {n : Nat}, (∀ i, i < n → f i = 0 ∨ f i = 1) → 0 ≤ ysm f n ∧ ysm f n ≤ n
  | 0, _ => by simp [ysm]
  | n + 1, h => by
    have h1 := ysm_01 (f := f) (n := n) (fun i hi => h i (by omega))
    have h2 := h n (by omega)
    rw [ysm_s]
    omega
theorem sS0 {r : Row} {k : Nat} (hk : k < yn r) : sSounds r (k : Int) 0 = r (46 + k) := by
  unfold sSounds; rw [if_pos (by unfold yn at hk; omega)]; rfl
theorem sS1 {r : Row} {k : Nat} (hk : k < yn r) : sSounds r (k : Int) 1 = r (58 + k) := by
  unfold sSounds; rw [if_pos (by unfold yn at hk; omega)]; rfl
theorem sS2 {r : Row} {k : Nat} (hk : k < yn r) : sSounds r (k : Int) 2 = ysm (fun k => r (58 + k)) k := by
  unfold sSounds; rw [if_pos (by unfold yn at hk; omega)]; rfl
theorem sS3 {r : Row} {k : Nat} (hk : k < yn r) : sSounds r (k : Int) 3 = ysm (yfr' r) k := by
  unfold sSounds; rw [if_pos (by unfold yn at hk; omega)]; rfl
theorem sS4 {r : Row} {k : Nat} (hk : k < yn r) : sSounds r (k : Int) 4 = yfr' r k := by
  unfold sSounds; rw [if_pos (by unfold yn at hk; omega)]; rfl
theorem sS5 {r : Row} {k : Nat} (hk : k < yn r) : sSounds r (k : Int) 5 = yln r k := by
  unfold sSounds; rw [if_pos (by unfold yn at hk; omega)]; rfl
theorem sS6 {r : Row} {k : Nat} (hk : k < yn r) : sSounds r (k : Int) 6 = ylo r k := by
  unfold sSounds; rw [if_pos (by unfold yn at hk; omega)]; rfl
theorem sT0 {r : Row} (v : Yvd r) {k : Nat} (hk : k < 12) : sTold r (r (46 + k)) 0 = vshp r k := by
  have := v.sg k hk
  unfold sTold; rw [if_pos (by omega), if_pos rfl]; rfl
theorem sT4 {r : Row} (v : Yvd r) {k : Nat} (hk : k < 12) : sTold r (r (46 + k)) 4 = if r (6 + (vshp r k).toNat) = 0 then 1 else 0 := by
  have := v.sg k hk
  unfold sTold; rw [if_pos (by omega), if_neg (by decide), if_neg (by decide), if_neg (by decide), if_neg (by decide), if_pos rfl]; rfl
theorem sA0 {r : Row} {f : Nat} (hf : (f : Int) < yM r (yn r)) : sAt r (f : Int) 0 = (ysA r f : Int) := by
  unfold sAt; rw [if_pos (by omega), if_pos rfl]; rfl
theorem sA1 {r : Row} {f : Nat} (hf : (f : Int) < yM r (yn r)) : sAt r (f : Int) 1 = ysh r f := by
  unfold sAt; rw [if_pos (by omega), if_neg (by decide)]; rfl
def yrun (q : Nat → Int) (k : Nat) : Int := if k = 0 then 0 else (k : Int) - (yhs q k).2.1
def yfst' (q : Nat → Int) (k : Nat) : Int := if k = 0 then -4 else (yhs q k).2.2.2
section FRAMES
variable {S L : Nat} {G : Nat → Nat → Int} {h : Nat → Nat → Option Nat} {Q : Option V2 → W2 → Prop} {r : Row} {n : Nat} {R : Nat → Row} {F0 : Nat → Nat → Int}
theorem l117_361 (v : Yvd r) (K : ∀ F, Oy F h r n R → Ob F0 F → Q (some (vi 1)) (Wd S L F G h)) : ∀ (m k : Nat) (F : Nat → Nat → Int) (x1 x2 x3 x4 x5 x7 x8 x9 x10 x11 : Int), k + m = (yM r (yn r)).toNat → Oy F h r n R → Ob F0 F →
    x1 = r 0 → x2 = yM r (yn r) → x3 = ysm (fun k => r (58 + k)) (yn r) → x4 = ysm (yzr r) (yn r) → x5 = ysm (ylo r) (yn r) → x7 = (yhs (ysh r) k).1 → x8 = yrun (ysh r) k → x9 = (yhs (ysh r) k).2.2.1 → x10 = yfst' (ysh r) k → x11 = (k : Int) → C117_361 x1 x2 x3 x4 x5 x7 x8 x9 x10 x11 (Wd S L F G h) Q
  | 0, k, F, x1, x2, x3, x4, x5, x7, x8, x9, x10, x11, e, o, b, e1, e2, e3, e4, e5, e7, e8, e9, e10, e11 => by
    have hT := yM_n v
    have hn := v.n
    have ek : k = (yM r (yn r)).toNat := by omega
    have rc : ∀ w, R32 (sCount r (n : Int) w) := fun w => R32_sCount v (by have := o.n6; omega) w
    refine T117_361 o.hh ⟨by omega, by omega, ?_⟩
    rw [if_pos (by omega)]
    have g : ∀ w x, x = sCount r (n : Int) w → R32 x := fun w x q => by rw [q]; exact rc w
    have f2 : x2 = sCount r (n : Int) 1 := e2
    have f3 : x3 = sCount r (n : Int) 2 := e3
    have f4 : x4 = sCount r (n : Int) 3 := e4
    have f5 : x5 = sCount r (n : Int) 4 := e5
    have f7 : x7 = sCount r (n : Int) 5 := by rw [e7, ek]; rfl
    have f9 : x9 = sCount r (n : Int) 6 := by rw [e9, ek]; rfl
    have f10 : x10 = sCount r (n : Int) 7 := by
      rw [e10, ek]
      unfold yfst'
      show _ = if yM r (yn r) = 0 then -4 else _
      by_cases q : yM r (yn r) = 0
      · rw [if_pos q, if_pos (by omega)]
      · rw [if_neg q, if_neg (by omega)]
    refine k75 o (by decide) (fun F1 o b1 => ⟨rc _, f2, ?_⟩)
    refine k75 o (by decide) (fun F2 o b2 => ⟨g _ _ f3, rc _, f3, ?_⟩)
    refine k75 o (by decide) (fun F3 o b3 => ⟨g _ _ f4, rc _, f4, ?_⟩)
    refine k75 o (by decide) (fun F4 o b4 => ⟨g _ _ f5, rc _, f5, ?_⟩)
    refine k75 o (by decide) (fun F5 o b5 => ⟨g _ _ f7, rc _, f7, ?_⟩)
    refine k75 o (by decide) (fun F6 o b6 => ⟨g _ _ f9, rc _, f9, ?_⟩)
    refine k75 o (by decide) (fun F7 o b7 => ⟨g _ _ f10, rc _, f10, ?_⟩)
    have a1 : sAt r x2 0 = -1 := by unfold sAt; rw [if_neg (by omega)]
    have a2 : sAt r (-1) 0 = -1 := by unfold sAt; rw [if_neg (by omega)]
    have a3 : sAt r 0 2 = -1 := by unfold sAt; rw [if_neg (by omega)]
    have a4 : sSounds r x1 0 = -1 := by unfold sSounds; rw [if_neg (by omega)]
    have a5 : sSounds r 0 7 = -1 := by unfold sSounds; split <;> rfl
    refine k74 o (by omega) (by decide) (fun F8 o b8 => ⟨by rw [a1]; decide, a1, ?_⟩)
    refine k74 o (by decide) (by decide) (fun F9 o b9 => ⟨by rw [a2]; decide, a2, ?_⟩)
    refine k74 o (by decide) (by decide) (fun F10 o b10 => ⟨by rw [a3]; decide, a3, ?_⟩)
    refine k73 o (by omega) (by decide) (fun F11 o b11 => ⟨by rw [a4]; decide, a4, ?_⟩)
    refine k73 o (by decide) (by decide) (fun F12 o b12 => ⟨by rw [a5]; decide, a5, ?_⟩)
    refine k75 o (by decide) (fun F13 o b13 => ⟨rc _, rfl, ?_⟩)
    exact K F13 o ((((((((((((b.tr b1).tr b2).tr b3).tr b4).tr b5).tr b6).tr b7).tr b8).tr b9).tr b10).tr b11).tr b12 |>.tr b13)
  | m + 1, k, F, x1, x2, x3, x4, x5, x7, x8, x9, x10, x11, e, o, b, e1, e2, e3, e4, e5, e7, e8, e9, e10, e11 => by
    have hT := yM_n v
    have hk : (k : Int) < yM r (yn r) := by omega
    have hb := yhs_bd (ysh r) k
    have ih := fun (F' : Nat → Nat → Int) (y7 y8 y9 y10 y11 : Int) (o' : Oy F' h r n R) (b' : Ob F0 F') => l117_361 v K m (k + 1) F' x1 x2 x3 x4 x5 y7 y8 y9 y10 y11 (by omega) o' b' e1 e2 e3 e4 e5
    have u8 : yrun (ysh r) (k + 1) = ((k + 1 : Nat) : Int) - (yhs (ysh r) (k + 1)).2.1 := by unfold yrun; rw [if_neg (by omega)]
    have u10 : yfst' (ysh r) (k + 1) = (yhs (ysh r) (k + 1)).2.2.2 := by unfold yfst'; rw [if_neg (by omega)]
    refine T117_361 o.hh ⟨by omega, by omega, ?_⟩
    rw [if_neg (by omega)]
    by_cases k0 : k = 0
    · subst k0
      have h0 : yhs (ysh r) 0 = (0, 0, 0, 0) := rfl
      rw [h0] at e7 e9
      dsimp only at e7 e9
      have s1 : yhs (ysh r) (0 + 1) = ((yhs (ysh r) 0).1 + 1, ((0 : Nat) : Int), ((0 : Nat) : Int) - (0 : Nat) + 1, ((0 : Nat) : Int)) := yhs_ng (Or.inl rfl) (by rw [h0]; decide)
      rw [h0] at s1
      rw [if_pos (by omega)]
      refine ⟨by omega, ?_⟩
      rw [if_neg (by omega)]
      exact ih F _ _ _ _ _ o b (by rw [s1]; dsimp only; omega) (by rw [u8, s1]; dsimp only; omega) (by rw [s1]; dsimp only; omega) (by rw [u10, s1]; dsimp only; omega) (by omega)
    · rw [if_neg (by omega)]
      have w8 : x8 = (k : Int) - (yhs (ysh r) k).2.1 := by rw [e8]; unfold yrun; rw [if_neg k0]
      have w10 : x10 = (yhs (ysh r) k).2.2.2 := by rw [e10]; unfold yfst'; rw [if_neg k0]
      have a1 : sAt r x11 1 = ysh r k := by rw [e11]; exact sA1 hk
      have a2 : sAt r (x11 - 1) 1 = ysh r (k - 1) := by
        rw [e11, show (k : Int) - 1 = ((k - 1 : Nat) : Int) by omega]
        exact sA1 (by omega)
      have q1 := ysh_bd v hk
      have q2 := ysh_bd v (f := k - 1) (by omega)
      refine k74 o (by omega) (by decide) (fun F1 o b1 => ?_)
      refine k74 o (by omega) (by decide) (fun F2 o b2 => ?_)
      rw [a1, a2]
      refine ⟨by omega, by omega, ?_⟩
      by_cases c : ysh r k = ysh r (k - 1)
      · have cn : ¬ (k = 0 ∨ ysh r k ≠ ysh r (k - 1)) := by
          intro q; rcases q with q | q
          · exact k0 q
          · exact q c
        rw [if_pos c]
        refine ⟨by omega, by omega, ?_⟩
        by_cases d : x8 + 1 ≤ x9
        · have s1 := yhs_ol (q := ysh r) (k := k) cn (by omega)
          rw [if_pos d]
          exact ih F2 _ _ _ _ _ o ((b.tr b1).tr b2) (by rw [s1]; dsimp only; omega) (by rw [u8, s1]; dsimp only; omega) (by rw [s1]; dsimp only; omega) (by rw [u10, s1]; dsimp only; omega) (by omega)
        · have s1 := yhs_og (q := ysh r) (k := k) cn (by omega)
          rw [if_neg d]
          exact ih F2 _ _ _ _ _ o ((b.tr b1).tr b2) (by rw [s1]; dsimp only; omega) (by rw [u8, s1]; dsimp only; omega) (by rw [s1]; dsimp only; omega) (by rw [u10, s1]; dsimp only; omega) (by omega)
      · rw [if_neg c]
        refine ⟨by omega, ?_⟩
        by_cases d : 1 ≤ x9
        · have s1 := yhs_nl (q := ysh r) (k := k) (Or.inr c) (by omega)
          rw [if_pos d]
          exact ih F2 _ _ _ _ _ o ((b.tr b1).tr b2) (by rw [s1]; dsimp only; omega) (by rw [u8, s1]; dsimp only; omega) (by rw [s1]; dsimp only; omega) (by rw [u10, s1]; dsimp only; omega) (by omega)
        · have s1 := yhs_ng (q := ysh r) (k := k) (Or.inr c) (by omega)
          rw [if_neg d]
          exact ih F2 _ _ _ _ _ o ((b.tr b1).tr b2) (by rw [s1]; dsimp only; omega) (by rw [u8, s1]; dsimp only; omega) (by rw [s1]; dsimp only; omega) (by rw [u10, s1]; dsimp only; omega) (by omega)
theorem l117_235 (v : Yvd r) {i : Nat} (hi : i < yn r) {x1 x2 x3 x4 x5 : Int} (e2 : x2 = ysm (yfr' r) i)
    (K : ∀ F, Oy F h r n R → Ob F0 F → C117_44 x1 (ysm (yfr' r) (i + 1)) (x3 + r (58 + i)) (x4 + zf r i) (x5 + ylo r i) ((i : Int) + 1) (Wd S L F G h) Q) : ∀ (m f : Nat) (F : Nat → Nat → Int), (f : Int) + m = ysm (yfr' r) (i + 1) → ysm (yfr' r) i ≤ f → Oy F h r n R → Ob F0 F → C117_235 x1 x2 x3 x4 x5 (i : Int) (yfr' r i) (f : Int) (Wd S L F G h) Q
  | 0, f, F, e, h1, o, b => by
    have p1 := yfr_part v (i := i) (by omega)
    have p2 := yfr_part v (i := i + 1) (by omega)
    have hb := yfr_bd' v hi
    have hy := yn_le v
    have es : ysm (yfr' r) (i + 1) = ysm (yfr' r) i + yfr' r i := rfl
    refine T117_235 o.hh ⟨by omega, by omega, ?_⟩
    rw [if_pos (by omega)]
    refine ⟨by omega, ?_⟩
    have fin : ∀ z, z = zf r i → C73_0 (i : Int) 6 (Wd S L F G h) (fun v w1 => ∃ (x : Int) (F' : Nat → Nat → Int), v = some (vi x) ∧ w1 = (Wd S L F' G h) ∧ C73_0 (i : Int) 1 (Wd S L F' G h) (fun v w1 => ∃ (y : Int) (F'' : Nat → Nat → Int), v = some (vi y) ∧ w1 = (Wd S L F'' G h) ∧ C117_44 x1 (x2 + yfr' r i) (x3 + y) (x4 + z) (x5 + x) ((i : Int) + 1) (Wd S L F'' G h) Q)) := fun z hz => by
      refine k73 o (by omega) (by decide) (fun F1 o b1 => ?_)
      refine k73 o (by omega) (by decide) (fun F2 o b2 => ?_)
      rw [sS6 hi, sS1 hi, hz, e2, ← es]
      exact K F2 o ((b.tr b1).tr b2)
    by_cases c : yfr' r i = 0
    · rw [if_pos c]
      exact fin 1 (by unfold zf; rw [if_pos c])
    · rw [if_neg c]
      exact fin 0 (by unfold zf; rw [if_neg c])
  | m + 1, f, F, e, h1, o, b => by
    have p1 := yfr_part v (i := i) (by omega)
    have p2 := yfr_part v (i := i + 1) (by omega)
    have p3 := yfr_mono v (a := i + 1) (b := yn r) (by omega) (Nat.le_refl _)
    have p4 := yfr_sum v
    have hb := yfr_bd' v hi
    have hy := yn_le v
    have es : ysm (yfr' r) (i + 1) = ysm (yfr' r) i + yfr' r i := rfl
    have hf : (f : Int) < yM r (yn r) := by omega
    have ha : ysA r f = i := ysA_of v hi h1 (by omega)
    have hs := v.sg i (by omega)
    have hv := vshp_bd v (i := i) (by omega)
    refine T117_235 o.hh ⟨by omega, by omega, ?_⟩
    rw [if_neg (by omega)]
    refine k74 o (by omega) (by decide) (fun F1 o b1 => ?_)
    rw [sA0 hf, ha]
    refine ⟨by omega, by omega, rfl, ?_⟩
    refine k74 o (by omega) (by decide) (fun F2 o b2 => ?_)
    refine k73 o (by omega) (by decide) (fun F3 o b3 => ?_)
    rw [sA1 hf, sS0 hi]
    refine k72 o (by omega) (by decide) ?_
    rw [sT0 v (by omega)]
    have hq : ysh r f = vshp r i := by unfold ysh; rw [ha]
    rw [hq]
    refine ⟨by omega, by omega, rfl, ?_⟩
    rw [show (f : Int) + 1 = ((f + 1 : Nat) : Int) by omega]
    exact l117_235 v hi e2 K m (f + 1) F3 (by omega) (by omega) o (((b.tr b1).tr b2).tr b3)
theorem l117_44 (K : ∀ F, Oy F h r n R → Ob F0 F → Q (some (vi 1)) (Wd S L F G h)) : ∀ (m i : Nat) (F : Nat → Nat → Int), i + m = yn r → Oy F h r n R → Ob F0 F →
    C117_44 (r 0) (ysm (yfr' r) i) (ysm (fun k => r (58 + k)) i) (ysm (zf r) i) (ysm (ylo r) i) (i : Int) (Wd S L F G h) Q
  | 0, i, F, e, o, b => by
    have v := o.v
    have hn := v.n
    have hi : i = yn r := by omega
    have hr : r 0 = (yn r : Int) := by unfold yn; omega
    refine T117_44 o.hh ⟨by omega, by omega, ?_⟩
    rw [if_pos (by omega), hi, yfr_sum v, zf_sum v]
    exact l117_361 v K (yM r (yn r)).toNat 0 F _ _ _ _ _ _ _ _ _ _ (by omega) o b rfl rfl rfl rfl rfl rfl rfl rfl rfl rfl
  | m + 1, i, F, e, o, b => by
    have v := o.v
    have hn := v.n
    have hy := yn_le v
    have hi : i < yn r := by omega
    have hr : r 0 = (yn r : Int) := by unfold yn; omega
    have hs := v.sg i (by omega)
    have hb := yfr_bd' v hi
    have hl := yln_bd r i
    have t1 := ysm_bd12 v (n := i) (by omega)
    have t2 := yfr_part v (i := i) (by omega)
    have rT : ∀ w, R32 (sTold r (r (46 + i)) w) := fun w => R32_sTold v _ _
    have rS : ∀ w, R32 (sSounds r (i : Int) w) := fun w => R32_sSounds v _ _
    refine T117_44 o.hh ⟨by omega, by omega, ?_⟩
    rw [if_neg (by omega)]
    refine k73 o (by omega) (by decide) (fun F1 o b1 => ?_)
    refine k73 o (by omega) (by decide) (fun F2 o b2 => ?_)
    refine k73 o (by omega) (by decide) (fun F3 o b3 => ?_)
    rw [sS4 hi, sS5 hi, sS0 hi]
    refine k72 o (by omega) (by decide) ⟨rT _, ?_⟩
    have bb := ((b.tr b1).tr b2).tr b3
    -- the rest of this sound
    have go : ∀ z : Int, z = (if r (6 + (vshp r i).toNat) = 0 then 1 else 0) → C117_96 (r 0) (ysm (yfr' r) i) (ysm (fun k => r (58 + k)) i) (ysm (zf r) i) (ysm (ylo r) i) (i : Int) (yfr' r i) (yln r i) z (Wd S L F3 G h) Q := fun z hz => by
      have z01 : z = 0 ∨ z = 1 := by
        rw [hz]
        by_cases c : r (6 + (vshp r i).toNat) = 0
        · rw [if_pos c]; exact Or.inr rfl
        · rw [if_neg c]; exact Or.inl rfl
      have nx : ∀ F, Oy F h r n R → Ob F0 F → C117_232 (r 0) (ysm (yfr' r) i) (ysm (fun k => r (58 + k)) i) (ysm (zf r) i) (ysm (ylo r) i) (i : Int) (yfr' r i) (Wd S L F G h) Q := fun F4 o b4 => by
        have tp := yfr_part v (i := i + 1) (by omega)
        have es : ysm (yfr' r) (i + 1) = ysm (yfr' r) i + yfr' r i := rfl
        refine T117_232 o.hh ?_
        have hx : ysm (yfr' r) i = (((ysm (yfr' r) i).toNat : Nat) : Int) := by omega
        have := l117_235 (S := S) (L := L) (G := G) (Q := Q) v hi (x1 := r 0) (x2 := ysm (yfr' r) i) (x3 := ysm (fun k => r (58 + k)) i) (x4 := ysm (zf r) i) (x5 := ysm (ylo r) i) rfl (F0 := F0) (h := h) (n := n) (R := R) (fun F o b => l117_44 K m (i + 1) F (by omega) o b) (yfr' r i).toNat (ysm (yfr' r) i).toNat F4 (by omega) (by omega) o b4
        rw [← hx] at this
        exact this
      have s188 : ∀ F, Oy F h r n R → Ob F0 F → C117_188 (r 0) (ysm (yfr' r) i) (ysm (fun k => r (58 + k)) i) (ysm (zf r) i) (ysm (ylo r) i) (i : Int) (yfr' r i) (yln r i) z (Wd S L F G h) Q := fun F4 o b4 => by
        refine T117_188 o.hh ⟨by omega, by omega, by omega, ?_⟩
        refine k73 o (by omega) (by decide) (fun F5 o b5 => ?_)
        have lo := ylo_i v hi
        rw [sS6 hi, lo]
        refine ⟨by omega, ?_⟩
        by_cases c : r (6 + (vshp r i).toNat) = 0
        · rw [if_pos c] at hz
          rw [if_neg (by omega)]
          refine ⟨by omega, ?_⟩
          by_cases d : yfr' r i = 0
          · rw [if_pos d, if_pos ⟨c, d⟩]
            exact ⟨by decide, rfl, nx F5 o (b4.tr b5)⟩
          · rw [if_neg d, if_neg (fun q => d q.2)]
            exact ⟨by decide, rfl, nx F5 o (b4.tr b5)⟩
        · rw [if_neg c] at hz
          rw [if_pos hz, if_neg (fun q => c q.1)]
          exact ⟨by decide, rfl, nx F5 o (b4.tr b5)⟩
      have s162 : ∀ F, Oy F h r n R → Ob F0 F → C117_162 (r 0) (ysm (yfr' r) i) (ysm (fun k => r (58 + k)) i) (ysm (zf r) i) (ysm (ylo r) i) (i : Int) (yfr' r i) (yln r i) z (Wd S L F G h) Q := fun F4 o b4 => by
        refine T117_162 o.hh ⟨by omega, ?_⟩
        by_cases c : yln r i = 2
        · obtain ⟨g1, g2⟩ := yln_b v c
          have g3 := yfr_bd' v g1
          rw [if_pos c]
          refine ⟨by omega, by omega, by omega, ?_⟩
          rw [show (i : Int) + 1 = ((i + 1 : Nat) : Int) by omega]
          refine k73 o (by omega) (by decide) (fun F5 o b5 => ?_)
          rw [sS4 g1]
          exact ⟨by omega, by omega, s188 F5 o (b4.tr b5)⟩
        · rw [if_neg c]
          exact s188 F4 o b4
      have s139 : ∀ F, Oy F h r n R → Ob F0 F → C117_139 (r 0) (ysm (yfr' r) i) (ysm (fun k => r (58 + k)) i) (ysm (zf r) i) (ysm (ylo r) i) (i : Int) (yfr' r i) (yln r i) z (Wd S L F G h) Q := fun F4 o b4 => by
        refine T117_139 o.hh ⟨by omega, ?_⟩
        by_cases c : yln r i = 1
        · obtain ⟨g1, g2⟩ := yln_a v hi c
          have g4 : i - 1 < yn r := by omega
          have g3 := yfr_bd' v g4
          rw [if_pos c]
          refine ⟨by omega, by omega, ?_⟩
          rw [show (i : Int) - 1 = ((i - 1 : Nat) : Int) by omega]
          refine k73 o (by omega) (by decide) (fun F5 o b5 => ?_)
          rw [sS4 g4]
          exact ⟨by omega, by omega, s162 F5 o (b4.tr b5)⟩
        · rw [if_neg c]
          exact s162 F4 o b4
      refine T117_96 o.hh ?_
      refine k73 o (by omega) (by decide) (fun F4 o b4 => ?_)
      rw [sS2 hi]
      refine ⟨by omega, by omega, rfl, ?_⟩
      refine k73 o (by omega) (by decide) (fun F5 o b5 => ?_)
      rw [sS3 hi]
      refine ⟨by omega, by omega, rfl, by omega, by omega, by omega, ?_⟩
      by_cases c : yln r i = 0
      · rw [if_pos c]
        exact s139 F5 o ((bb.tr b4).tr b5)
      · rw [if_neg c]
        obtain ⟨g1, g2⟩ := yln_1 hi c
        rw [if_pos g1] at hz
        exact ⟨by omega, by omega, g2, s139 F5 o ((bb.tr b4).tr b5)⟩
    rw [sT4 v (by omega)]
    by_cases c : r (6 + (vshp r i).toNat) = 0
    · have := go 1 (by rw [if_pos c])
      rw [if_pos c, if_pos rfl]
      exact this
    · have := go 0 (by rw [if_neg c])
      rw [if_neg c, if_neg (by decide)]
      exact this
theorem k117 {F : Nat → Nat → Int} (o : Oy F h r n R) {P : Int → (Nat → Nat → Int) → Prop} (H : ∀ F', Oy F' h r n R → Ob F F' → P 1 F') : C117_0 (Wd S L F G h) (fun v w1 => ∃ (x : Int) (F' : Nat → Nat → Int), v = some (vi x) ∧ w1 = (Wd S L F' G h) ∧ P x F') := by
  have v := o.v
  have hT := yM_n v
  have rc : sCount r (n : Int) 1 = yM r (yn r) := rfl
  have r0 : sCount r (n : Int) 0 = r 0 := rfl
  refine T117_0 o.hh ?_
  refine k75 o (by decide) (fun F1 o b1 => ?_)
  refine k75 o (by decide) (fun F2 o b2 => ?_)
  rw [rc]
  refine ⟨by omega, by omega, ?_⟩
  refine k75 o (by decide) (fun F3 o b3 => ?_)
  rw [rc, r0]
  refine ⟨by omega, by omega, ?_⟩
  exact l117_44 (F0 := F) (fun F' o' b' => ⟨_, F', rfl, rfl, H F' o' b'⟩) (yn r) 0 F3 (by omega) o ((b1.tr b2).tr b3)
end FRAMES
