/-! smooth, jump, calm -/
def vsh' (r : Row) (i : Nat) (ax : Int) : Int := if ax = 0 ∧ r (6 + (vshp r i).toNat) = 0 then 1 else 0
def sFi (f w : Int) : Int := if w ≤ f then f - w else 0
def sLa (T f w : Int) : Int := if f + w < T then f + w else T - 1
def sSu (r : Row) (ax : Int) (a m : Nat) : Int := ysm (fun k => pPt r (ysA r (a + k) : Int) ax) m
/-- smooth of a frame, in whole parts -/
def sSm (r : Row) (ax : Int) (f : Nat) (w : Int) : Int := if ax = 0 ∧ r (6 + (vshp r (ysA r f)).toNat) = 0 then 0 else sSu r ax (sFi f w).toNat (sLa (yM r (yn r)) f w - sFi f w + 1).toNat * (420 / (sLa (yM r (yn r)) f w - sFi f w + 1))
def sAbs (d : Int) : Int := if 0 ≤ d then d else -d
def sJu (r : Row) (ax w : Int) : Nat → Int
  | 0 => 0
  | k + 1 => if sAbs (sSm r ax (k + 1) w - sSm r ax k w) ≤ sJu r ax w k then sJu r ax w k else sAbs (sSm r ax (k + 1) w - sSm r ax k w)
theorem sSu_bd {r : Row} (v : Yvd r) (ax : Int) {a m : Nat} (h : ((a + m : Nat) : Int) ≤ yM r (yn r)) (hm : m ≤ 7) : 0 ≤ sSu r ax a m ∧ sSu r ax a m ≤ 131171040 := by
  have := ysm_bd (f := fun k => pPt r (ysA r (a + k) : Int) ax) (c := 18738720) (n := m) (fun k hk => by
    have h1 := (ysA_is v (f := a + k) (by omega)).1
    have h2 := yn_le v
    exact pPt_bd v (i := (ysA r (a + k) : Int)) (by omega) ax)
  unfold sSu
  omega
theorem div420 {c : Int} (h : 1 ≤ c ∧ c ≤ 7) : (420 = c * (420 / c)) ∧ 60 ≤ 420 / c ∧ 420 / c ≤ 420 := by
  have : c = 1 ∨ c = 2 ∨ c = 3 ∨ c = 4 ∨ c = 5 ∨ c = 6 ∨ c = 7 := by omega
  rcases this with rfl | rfl | rfl | rfl | rfl | rfl | rfl <;> decide
theorem mul420 {c x : Int} (h : 1 ≤ c ∧ c ≤ 7) : x * 420 / c = x * (420 / c) := by
  obtain ⟨h1, h2, h3⟩ := div420 h
  conv => lhs; rw [h1]
  rw [show x * (c * (420 / c)) = x * (420 / c) * c by rw [Int.mul_comm c, Int.mul_assoc]]
  exact Int.mul_ediv_cancel _ (by omega)
/-- the frames of a window -/
theorem win {T f w : Int} (hf : 0 ≤ f ∧ f < T) (hw : 0 ≤ w ∧ w ≤ 3) : 0 ≤ sFi f w ∧ sFi f w ≤ f ∧ f ≤ sLa T f w ∧ sLa T f w < T ∧ sLa T f w - sFi f w + 1 ≤ 7 := by
  unfold sFi sLa
  split <;> split <;> omega
theorem sSm_bd {r : Row} (v : Yvd r) (ax : Int) {f : Nat} {w : Int} (hf : (f : Int) < yM r (yn r)) (hw : 0 ≤ w ∧ w ≤ 3) : 0 ≤ sSm r ax f w ∧ sSm r ax f w ≤ 60000000000 := by
  have hwin := win (T := yM r (yn r)) (f := (f : Int)) (w := w) (by omega) hw
  unfold sSm
  split
  · omega
  · have h1 := sSu_bd v ax (a := (sFi f w).toNat) (m := (sLa (yM r (yn r)) f w - sFi f w + 1).toNat) (by omega) (by omega)
    have h2 := div420 (c := sLa (yM r (yn r)) f w - sFi f w + 1) (by omega)
    have := ymul_bd (x := sSu r ax (sFi f w).toNat (sLa (yM r (yn r)) f w - sFi f w + 1).toNat) (y := 420 / (sLa (yM r (yn r)) f w - sFi f w + 1)) (A := 131171040) (B := 420) h1 (by omega)
    omega
theorem sJu_bd {r : Row} (v : Yvd r) (ax : Int) {w : Int} (hw : 0 ≤ w ∧ w ≤ 3) : ∀ k : Nat, ((k : Int) < yM r (yn r) ∨ k = 0) → 0 ≤ sJu r ax w k ∧ sJu r ax w k ≤ 60000000000
  | 0, _ => by show (0 : Int) ≤ 0 ∧ (0 : Int) ≤ 60000000000; omega
  | k + 1, h => by
    have ih := sJu_bd v ax hw k (by omega)
    have h1 := sSm_bd v ax (f := k + 1) (w := w) (by omega) hw
    have h2 := sSm_bd v ax (f := k) (w := w) (by omega) hw
    have es : sJu r ax w (k + 1) = if sAbs (sSm r ax (k + 1) w - sSm r ax k w) ≤ sJu r ax w k then sJu r ax w k else sAbs (sSm r ax (k + 1) w - sSm r ax k w) := rfl
    rw [es]
    unfold sAbs
    repeat' split
    all_goals omega
section SMOOTH
variable {S L : Nat} {F G : Nat → Nat → Int} {h : Nat → Nat → Option Nat} {Q : Option V2 → W2 → Prop}
/-- the component's mouth made anew -/
def Ymou (F G : Nat → Nat → Int) (r : Row) (ax : Int) : Prop := ∀ i, i < yn r → G 282 i = pPt r (i : Int) ax ∧ F 283 i = vsh' r i ax
theorem L9 (hh : RfH h) {r : Row} (t : Ytk F 1 r) (v : Yvd r) {ax : Int} (ra : R32 ax) (H : ∀ F' G' : Nat → Nat → Int, Ymou F' G' r ax → (∀ p, p ≠ 283 → F' p = F p) → (∀ p, p ≠ 282 → G' p = G p) → Q none (Wd S L F' G' h)) :
    ∀ (m k : Nat) (F1 G1 : Nat → Nat → Int), k + m = yn r → (∀ i, i < k → G1 282 i = pPt r (i : Int) ax ∧ F1 283 i = vsh' r i ax) → (∀ p, p ≠ 283 → F1 p = F p) → (∀ p, p ≠ 282 → G1 p = G p) → C9_2 ax (k : Int) (Wd S L F1 G1 h) Q
  | 0, k, F1, G1, e, h1, h2, h3 => by
    have hn := v.n
    have e6 : F1 1 6 = r 0 := by rw [h2 1 (by decide)]; exact t.n1
    refine T9_2 hh ⟨by unfold yn at e; omega, by omega, ?_⟩
    rw [if_pos (by unfold yn at e; omega)]
    exact H F1 G1 (fun i hi => h1 i (by omega)) h2 h3
  | m + 1, k, F1, G1, e, h1, h2, h3 => by
    have hn := v.n
    have hy := yn_le v
    have t1 : Ytk F1 1 r := t.cong (fun x q1 q2 => h2 x (by omega))
    have e6 := t1.n1
    have ek : ((k : Nat) : Int).toNat = k := by omega
    have es := t1.sg1 k (by omega)
    have hs := v.sg k (by omega)
    have eh : F1 4 (r (46 + k)).toNat = vshp r k := t1.sh1 _ (by omega)
    have hv := vshp_bd v (i := k) (by omega)
    have eo := t1.op1 (vshp r k).toNat (by omega)
    have ho := v.op (vshp r k).toNat (by omega)
    have next : ∀ z, z = vsh' r k ax → C9_2 ax ((k : Int) + 1) (Wd S L (am_up F1 283 k z) (am_up G1 282 k (pPt r (k : Int) ax)) h) Q := fun z hz => by
      refine L9 hh t v ra H m (k + 1) _ _ (by omega) (fun i hi => ?_) (fun p hp => by rw [up_out hp, h2 p hp]) (fun p hp => by rw [up_out hp, h3 p hp])
      rw [up_at, up_at]
      by_cases q : i = k
      · rw [if_pos q, if_pos q, q]
        exact ⟨rfl, hz⟩
      · rw [if_neg q, if_neg q]
        exact h1 i (by omega)
    refine T9_2 hh ⟨by omega, by omega, ?_⟩
    rw [if_neg (by unfold yn at e; omega), ek, es, eh, eo]
    refine K10 hh t1 v (by omega) ra ⟨_, rfl, rfl, by omega, ra, ?_⟩
    split
    · rename_i c
      refine ⟨by omega, by omega, by omega, ?_⟩
      split
      · rename_i c2
        exact next 1 (by unfold vsh'; rw [if_pos ⟨c, c2⟩])
      · rename_i c2
        exact next 0 (by unfold vsh'; rw [if_neg (fun x => c2 x.2)])
    · rename_i c
      exact next 0 (by unfold vsh'; rw [if_neg (fun x => c x.1)])
theorem K9 (hh : RfH h) {r : Row} (t : Ytk F 1 r) (v : Yvd r) {ax : Int} (ra : R32 ax) (H : ∀ F' G' : Nat → Nat → Int, Ymou F' G' r ax → (∀ p, p ≠ 283 → F' p = F p) → (∀ p, p ≠ 282 → G' p = G p) → Q none (Wd S L F' G' h)) : C9_0 ax (Wd S L F G h) Q :=
  T9_0 hh (L9 hh t v ra H (yn r) 0 F G (by omega) (fun i hi => absurd hi (Nat.not_lt_zero i)) (fun p hp => rfl) (fun p hp => rfl))
theorem L11 (hh : RfH h) {r : Row} (v : Yvd r) (c : Ycut F r) {ax : Int} (mo : Ymou F G r ax) {a b : Int} (hab : 0 ≤ a ∧ a ≤ b ∧ b < yM r (yn r) ∧ b - a + 1 ≤ 7) (H : Q (some (vj (sSu r ax a.toNat (b - a + 1).toNat * (420 / (b - a + 1))))) (Wd S L F G h)) :
    ∀ (m k : Nat), k + m = (b - a + 1).toNat → C11_46 a b (sSu r ax a.toNat k) (a + (k : Int)) (Wd S L F G h) Q
  | 0, k, e => by
    have hT := yM_n v
    have : k = (b - a + 1).toNat := by omega
    subst this
    have hs := sSu_bd v ax (a := a.toNat) (m := (b - a + 1).toNat) (by omega) (by omega)
    refine T11_46 hh ⟨by omega, by omega, ?_⟩
    rw [if_pos (by omega)]
    refine ⟨by omega, ?_⟩
    rw [if_neg (by omega)]
    refine ⟨by omega, ?_⟩
    rw [mul420 (by omega)]
    exact H
  | m + 1, k, e => by
    have hT := yM_n v
    have hA := (ysA_is v (f := a.toNat + k) (by omega)).1
    have hy := yn_le v
    obtain ⟨d1, d2, d3, d4, d5, d6⟩ := c
    have e1 : (a + (k : Int)).toNat = a.toNat + k := by omega
    have e2 := (d5 (a.toNat + k) (by omega)).1
    have e3 : ((ysA r (a.toNat + k) : Nat) : Int).toNat = ysA r (a.toNat + k) := by omega
    refine T11_46 hh ⟨by omega, by omega, ?_⟩
    rw [if_neg (by omega), e1, e2, e3, (mo _ hA).1]
    refine ⟨by omega, by omega, ?_⟩
    rw [show a + (k : Int) + 1 = a + ((k + 1 : Nat) : Int) by omega]
    exact L11 hh v ⟨d1, d2, d3, d4, d5, d6⟩ mo hab H m (k + 1) (by omega)
theorem K11 (hh : RfH h) {r : Row} (v : Yvd r) (c : Ycut F r) {ax : Int} (mo : Ymou F G r ax) {f w : Int} (hf : 0 ≤ f ∧ f < yM r (yn r)) (hw : 0 ≤ w ∧ w ≤ 3) (H : Q (some (vj (sSm r ax f.toNat w))) (Wd S L F G h)) : C11_0 f w (Wd S L F G h) Q := by
  have hT := yM_n v
  have hA := (ysA_is v (f := f.toNat) (by omega)).1
  have hy := yn_le v
  have e2 := (c.2.2.2.2.1 f.toNat (by omega)).1
  have e3 : ((ysA r f.toNat : Nat) : Int).toNat = ysA r f.toNat := by omega
  have e4 := (mo _ hA).2
  have e7 := c.2.2.2.1
  have hwin := win hf hw
  unfold sSm at H
  rw [show ((f.toNat : Nat) : Int) = f by omega] at H
  refine T11_0 hh ?_
  rw [e2, e3, e4]
  unfold vsh'
  refine ⟨by omega, by omega, by split <;> decide, ?_⟩
  by_cases c0 : ax = 0 ∧ r (6 + (vshp r (ysA r f.toNat)).toNat) = 0
  · rw [if_pos c0] at H
    rw [if_pos c0, if_neg (by decide)]
    exact H
  · rw [if_neg c0] at H
    rw [if_neg c0, if_pos rfl, e7]
    have g1 : (if 0 < (f - w) then (f - w) else 0) = sFi f w := by unfold sFi; split <;> split <;> omega
    have g2 : (if (f + w) < (yM r (yn r) - 1) then (f + w) else (yM r (yn r) - 1)) = sLa (yM r (yn r)) f w := by unfold sLa; split <;> split <;> omega
    rw [g1, g2]
    refine ⟨by omega, by omega, by omega, ?_⟩
    have := L11 (S := S) (L := L) (Q := Q) hh v c mo (a := sFi f w) (b := sLa (yM r (yn r)) f w) (by omega) H (sLa (yM r (yn r)) f w - sFi f w + 1).toNat 0 (by omega)
    rw [show sFi f w + ((0 : Nat) : Int) = sFi f w by omega] at this
    exact this
theorem L12 (hh : RfH h) {r : Row} (v : Yvd r) (c : Ycut F r) {ax : Int} (mo : Ymou F G r ax) {w : Int} (hw : 0 ≤ w ∧ w ≤ 3) (H : Q (some (vj (sJu r ax w ((yM r (yn r)).toNat - 1)))) (Wd S L F G h)) :
    ∀ (m k : Nat), k + m = (yM r (yn r)).toNat - 1 → C12_5 w (sJu r ax w k) ((k : Int) + 1) (Wd S L F G h) Q
  | 0, k, e => by
    have hT := yM_n v
    have e7 := c.2.2.2.1
    have : k = (yM r (yn r)).toNat - 1 := by omega
    subst this
    refine T12_5 hh ?_
    rw [e7]
    refine ⟨by omega, by omega, ?_⟩
    rw [if_pos (by omega)]
    exact H
  | m + 1, k, e => by
    have hT := yM_n v
    have e7 := c.2.2.2.1
    have h1 := sSm_bd v ax (f := k + 1) (w := w) (by omega) hw
    have h2 := sSm_bd v ax (f := k) (w := w) (by omega) hw
    have h3 := sJu_bd v ax hw k (by omega)
    have ek1 : ((k : Int) + 1).toNat = k + 1 := by omega
    have ek : ((k : Int) + 1 - 1).toNat = k := by omega
    refine T12_5 hh ?_
    rw [e7]
    refine ⟨by omega, by omega, ?_⟩
    rw [if_neg (by omega)]
    refine K11 hh v c mo (by omega) hw ⟨_, rfl, rfl, K11 hh v c mo (by omega) hw ⟨_, rfl, rfl, ?_⟩⟩
    rw [ek, ek1]
    refine ⟨by omega, by omega, by split <;> omega, ?_⟩
    have := L12 hh v c mo hw H m (k + 1) (by omega)
    have es : sJu r ax w (k + 1) = (if (if 0 < (sSm r ax (k + 1) w - sSm r ax k w) then (sSm r ax (k + 1) w - sSm r ax k w) else -(sSm r ax (k + 1) w - sSm r ax k w)) < sJu r ax w k then sJu r ax w k else (if 0 < (sSm r ax (k + 1) w - sSm r ax k w) then (sSm r ax (k + 1) w - sSm r ax k w) else -(sSm r ax (k + 1) w - sSm r ax k w))) := by
      show (if sAbs _ ≤ _ then _ else sAbs _) = _
      unfold sAbs
      generalize sSm r ax (k + 1) w - sSm r ax k w = d
      generalize sJu r ax w k = j
      repeat' split
      all_goals omega
    rw [es] at this
    exact this
theorem K12 (hh : RfH h) {r : Row} (v : Yvd r) (c : Ycut F r) {ax : Int} (mo : Ymou F G r ax) {w : Int} (hw : 0 ≤ w ∧ w ≤ 3) (H : Q (some (vj (sJu r ax w ((yM r (yn r)).toNat - 1)))) (Wd S L F G h)) : C12_0 w (Wd S L F G h) Q :=
  T12_0 hh (L12 hh v c mo hw H ((yM r (yn r)).toNat - 1) 0 (by omega))
/-! the reference's -/
def Yprt (G : Nat → Nat → Int) (r : Row) (ax : Int) : Prop := ∀ i, i < yn r → G 310 i = pPt r (i : Int) ax
/-! the calls -/
def sSmooth (r : Row) (f ax w : Int) : Int := if 0 ≤ f ∧ f < yM r (yn r) ∧ 0 ≤ ax ∧ ax ≤ 1 ∧ 0 ≤ w ∧ w ≤ 1 then yfr (sSm r ax f.toNat (r 4)) 151351200 w else -1
def sJump (r : Row) (ax w : Int) : Int := if 0 ≤ ax ∧ ax ≤ 1 ∧ 0 ≤ w ∧ w ≤ 1 then yfr (sJu r ax (r 4) ((yM r (yn r)).toNat - 1)) 151351200 w else -1
theorem sJu_bd' {r : Row} (v : Yvd r) (ax : Int) {w : Int} (hw : 0 ≤ w ∧ w ≤ 3) : 0 ≤ sJu r ax w ((yM r (yn r)).toNat - 1) ∧ sJu r ax w ((yM r (yn r)).toNat - 1) ≤ 60000000000 := by
  have hT := yM_n v
  exact sJu_bd v ax hw _ (by omega)
theorem R64_sSmooth {r : Row} (v : Yvd r) (f ax w : Int) : R64 (sSmooth r f ax w) := by
  unfold sSmooth
  split
  · have h1 := sSm_bd v ax (f := f.toNat) (w := r 4) (by omega) v.wi
    have := yfr_bd (a := sSm r ax f.toNat (r 4)) (b := 151351200) (w := w) (M := 60000000000) h1 (by decide)
    omega
  · decide
theorem R64_sJump {r : Row} (v : Yvd r) (ax w : Int) : R64 (sJump r ax w) := by
  unfold sJump
  split
  · have h1 := sJu_bd' v ax v.wi
    have := yfr_bd (a := sJu r ax (r 4) ((yM r (yn r)).toNat - 1)) (b := 151351200) (w := w) (M := 60000000000) h1 (by decide)
    omega
  · decide
theorem K77 (hh : RfH h) {r : Row} (t : Ytk F 1 r) (v : Yvd r) {f ax w : Int} (rf' : R32 f) (ra : R32 ax) (rw' : R32 w) (H : ∀ (x : Int) (F' G' : Nat → Nat → Int), x = sSmooth r f ax w → (∀ p, p < 275 ∨ 284 ≤ p → F' p = F p) → (∀ p, p ≠ 282 → G' p = G p) → Q (some (vj x)) (Wd S L F' G' h)) : C77_0 f ax w (Wd S L F G h) Q := by
  have hT := yM_n v
  refine T77_0 hh (K1 hh t v (fun F1 c f1 => ⟨_, rfl, rfl, rf', ?_⟩))
  have t1 : Ytk F1 1 r := t.cong (fun x h1 h2 => f1 x (by omega))
  have bad : ¬ (0 ≤ f ∧ f < yM r (yn r) ∧ 0 ≤ ax ∧ ax ≤ 1 ∧ 0 ≤ w ∧ w ≤ 1) → Q (some (vj (-1))) (Wd S L F1 G h) := fun hb => H _ F1 G (by unfold sSmooth; rw [if_neg hb]) (fun p hp => f1 p (by omega)) (fun p hp => rfl)
  rw [c.2.2.2.1]
  by_cases u1 : f < 0
  · rw [if_pos u1]; exact bad (by omega)
  rw [if_neg u1]
  refine ⟨by omega, ?_⟩
  by_cases u2 : yM r (yn r) - 1 < f
  · rw [if_pos u2]; exact bad (by omega)
  rw [if_neg u2]
  have go : 0 ≤ ax ∧ ax ≤ 1 → 0 ≤ w ∧ w ≤ 1 → C9_0 ax (Wd S L F1 G h) (fun v w1 => ∃ (F10 : Nat → Nat → Int) (G11 : Nat → Nat → Int), v = none ∧ w1 = (Wd S L F10 G11 h) ∧
       C11_0 f (F10 1 9) (Wd S L F10 G11 h) (fun v w1 => ∃ (v12 : Int), v = some (vj v12) ∧ w1 = (Wd S L F10 G11 h) ∧
        C105_0 v12 151351200 w (Wd S L F10 G11 h) (fun v w1 => ∃ (v13 : Int), v = some (vj v13) ∧ w1 = (Wd S L F10 G11 h) ∧
         Q (some (vj v13)) (Wd S L F10 G11 h)))) := fun q1 q2 => by
    refine K9 hh t1 v ra (fun F2 G2 mo a1 a2 => ⟨_, _, rfl, rfl, ?_⟩)
    have e19 : F2 1 9 = r 4 := by rw [a1 1 (by decide)]; exact t1.wi1
    have c2 : Ycut F2 r := by
      unfold Ycut
      rw [a1 276 (by decide), a1 277 (by decide), a1 278 (by decide), a1 275 (by decide), a1 279 (by decide), a1 280 (by decide)]
      exact c
    rw [e19]
    have hb := sSm_bd v ax (f := f.toNat) (w := r 4) (by omega) v.wi
    refine K11 hh v c2 mo (by omega) v.wi ⟨_, rfl, rfl, K105 hh (by omega) (by decide) rw' ⟨_, rfl, rfl, H _ F2 G2 ?_ (fun p hp => by rw [a1 p (by omega), f1 p (by omega)]) a2⟩⟩
    unfold sSmooth
    rw [if_pos (by omega)]
  refine ⟨ra, ?_⟩
  by_cases u3 : ax = 0
  · rw [if_pos u3]
    refine ⟨rw', ?_⟩
    by_cases u4 : w = 0
    · rw [if_pos u4]; exact go (by omega) (by omega)
    · rw [if_neg u4]
      by_cases u5 : w = 1
      · rw [if_pos u5]; exact go (by omega) (by omega)
      · rw [if_neg u5]; exact bad (by omega)
  · rw [if_neg u3]
    by_cases u6 : ax = 1
    · rw [if_pos u6]
      refine ⟨rw', ?_⟩
      by_cases u4 : w = 0
      · rw [if_pos u4]; exact go (by omega) (by omega)
      · rw [if_neg u4]
        by_cases u5 : w = 1
        · rw [if_pos u5]; exact go (by omega) (by omega)
        · rw [if_neg u5]; exact bad (by omega)
    · rw [if_neg u6]; exact bad (by omega)
theorem K78 (hh : RfH h) {r : Row} (t : Ytk F 1 r) (v : Yvd r) {ax w : Int} (ra : R32 ax) (rw' : R32 w) (H : ∀ (x : Int) (F' G' : Nat → Nat → Int), x = sJump r ax w → (∀ p, p < 275 ∨ 284 ≤ p → F' p = F p) → (∀ p, p ≠ 282 → G' p = G p) → Q (some (vj x)) (Wd S L F' G' h)) : C78_0 ax w (Wd S L F G h) Q := by
  have hT := yM_n v
  have bad : ¬ (0 ≤ ax ∧ ax ≤ 1 ∧ 0 ≤ w ∧ w ≤ 1) → Q (some (vj (-1))) (Wd S L F G h) := fun hb => H _ F G (by unfold sJump; rw [if_neg hb]) (fun p hp => rfl) (fun p hp => rfl)
  have go : 0 ≤ ax ∧ ax ≤ 1 → 0 ≤ w ∧ w ≤ 1 → C1_0 (Wd S L F G h) (fun v w1 => ∃ (F5 : Nat → Nat → Int), v = none ∧ w1 = (Wd S L F5 G h) ∧
    C9_0 ax (Wd S L F5 G h) (fun v w1 => ∃ (F6 : Nat → Nat → Int) (G7 : Nat → Nat → Int), v = none ∧ w1 = (Wd S L F6 G7 h) ∧
     C12_0 (F6 1 9) (Wd S L F6 G7 h) (fun v w1 => ∃ (v8 : Int), v = some (vj v8) ∧ w1 = (Wd S L F6 G7 h) ∧
      C105_0 v8 151351200 w (Wd S L F6 G7 h) (fun v w1 => ∃ (v9 : Int), v = some (vj v9) ∧ w1 = (Wd S L F6 G7 h) ∧
       Q (some (vj v9)) (Wd S L F6 G7 h))))) := fun q1 q2 => by
    refine K1 hh t v (fun F1 c f1 => ⟨_, rfl, rfl, ?_⟩)
    have t1 : Ytk F1 1 r := t.cong (fun x h1 h2 => f1 x (by omega))
    refine K9 hh t1 v ra (fun F2 G2 mo a1 a2 => ⟨_, _, rfl, rfl, ?_⟩)
    have e19 : F2 1 9 = r 4 := by rw [a1 1 (by decide)]; exact t1.wi1
    have c2 : Ycut F2 r := by
      unfold Ycut
      rw [a1 276 (by decide), a1 277 (by decide), a1 278 (by decide), a1 275 (by decide), a1 279 (by decide), a1 280 (by decide)]
      exact c
    rw [e19]
    have hb := sJu_bd' v ax v.wi
    refine K12 hh v c2 mo v.wi ⟨_, rfl, rfl, K105 hh (by omega) (by decide) rw' ⟨_, rfl, rfl, H _ F2 G2 ?_ (fun p hp => by rw [a1 p (by omega), f1 p (by omega)]) a2⟩⟩
    unfold sJump
    rw [if_pos (by omega)]
  refine T78_0 hh ⟨ra, ?_⟩
  by_cases u3 : ax = 0
  · rw [if_pos u3]
    refine ⟨rw', ?_⟩
    by_cases u4 : w = 0
    · rw [if_pos u4]; exact go (by omega) (by omega)
    · rw [if_neg u4]
      by_cases u5 : w = 1
      · rw [if_pos u5]; exact go (by omega) (by omega)
      · rw [if_neg u5]; exact bad (by omega)
  · rw [if_neg u3]
    by_cases u6 : ax = 1
    · rw [if_pos u6]
      refine ⟨rw', ?_⟩
      by_cases u4 : w = 0
      · rw [if_pos u4]; exact go (by omega) (by omega)
      · rw [if_neg u4]
        by_cases u5 : w = 1
        · rw [if_pos u5]; exact go (by omega) (by omega)
        · rw [if_neg u5]; exact bad (by omega)
    · rw [if_neg u6]; exact bad (by omega)
def cOk (r : Row) (ax x : Int) (k : Nat) : Prop := sJu r ax (k : Int) ((yM r (yn r)).toNat - 1) ≤ x * 151351200
/-- the least window that calms: k the one that is tried, d how many are left -/
def sCal (r : Row) (ax x : Int) (k : Nat) : Nat → Int
  | 0 => -4
  | d + 1 => if x * 151351200 < sJu r ax (k : Int) ((yM r (yn r)).toNat - 1) then sCal r ax x (k + 1) d else (k : Int)
def sCalm (r : Row) (ax x : Int) : Int := if 0 ≤ ax ∧ ax ≤ 1 ∧ 0 ≤ x ∧ x ≤ 12 then sCal r ax x 0 4 else -1
theorem sCal_bd (r : Row) (ax x : Int) : ∀ d k, k + d ≤ 4 → R32 (sCal r ax x k d)
  | 0, k, _ => by show R32 (-4); decide
  | d + 1, k, h => by
    unfold sCal
    split
    · exact sCal_bd r ax x d (k + 1) (by omega)
    · omega
theorem R32_sCalm (r : Row) (ax x : Int) : R32 (sCalm r ax x) := by
  unfold sCalm
  split
  · exact sCal_bd r ax x 4 0 (by omega)
  · exact r32m1
theorem L79 (hh : RfH h) {r : Row} (v : Yvd r) (c : Ycut F r) {ax : Int} (mo : Ymou F G r ax) {x : Int} (hx : 0 ≤ x ∧ x ≤ 12) : ∀ (d k : Nat), k + d = 4 → Q (some (vi (sCal r ax x k d))) (Wd S L F G h) → C79_44 x (k : Int) (Wd S L F G h) Q
  | 0, k, e, H => by
    refine T79_44 hh ⟨by omega, ?_⟩
    rw [if_pos (by omega)]
    exact H
  | d + 1, k, e, H => by
    have hb := sJu_bd' v ax (w := (k : Int)) (by omega)
    refine T79_44 hh ⟨by omega, ?_⟩
    rw [if_neg (by omega)]
    refine K12 hh v c mo (by omega) ⟨_, rfl, rfl, by omega, by omega, by omega, ?_⟩
    unfold sCal at H
    split
    · rename_i c1
      rw [if_pos c1] at H
      exact L79 hh v c mo hx d (k + 1) (by omega) H
    · rename_i c1
      rw [if_neg c1] at H
      exact H
theorem K79 (hh : RfH h) {r : Row} (t : Ytk F 1 r) (v : Yvd r) {ax x : Int} (ra : R32 ax) (rx : R32 x) (H : ∀ (y : Int) (F' G' : Nat → Nat → Int), y = sCalm r ax x → (∀ p, p < 275 ∨ 284 ≤ p → F' p = F p) → (∀ p, p ≠ 282 → G' p = G p) → Q (some (vi y)) (Wd S L F' G' h)) : C79_0 ax x (Wd S L F G h) Q := by
  have bad : ¬ (0 ≤ ax ∧ ax ≤ 1 ∧ 0 ≤ x ∧ x ≤ 12) → Q (some (vi (-1))) (Wd S L F G h) := fun hb => H _ F G (by unfold sCalm; rw [if_neg hb]) (fun p hp => rfl) (fun p hp => rfl)
  have go : 0 ≤ ax ∧ ax ≤ 1 → 0 ≤ x ∧ x ≤ 12 → C1_0 (Wd S L F G h) (fun v w1 => ∃ (F6 : Nat → Nat → Int), v = none ∧ w1 = (Wd S L F6 G h) ∧
     C9_0 ax (Wd S L F6 G h) (fun v w1 => ∃ (F7 : Nat → Nat → Int) (G8 : Nat → Nat → Int), v = none ∧ w1 = (Wd S L F7 G8 h) ∧
      C79_44 x 0 (Wd S L F7 G8 h) Q)) := fun q1 q2 => by
    refine K1 hh t v (fun F1 c f1 => ⟨_, rfl, rfl, ?_⟩)
    have t1 : Ytk F1 1 r := t.cong (fun x h1 h2 => f1 x (by omega))
    refine K9 hh t1 v ra (fun F2 G2 mo a1 a2 => ⟨_, _, rfl, rfl, ?_⟩)
    have c2 : Ycut F2 r := by
      unfold Ycut
      rw [a1 276 (by decide), a1 277 (by decide), a1 278 (by decide), a1 275 (by decide), a1 279 (by decide), a1 280 (by decide)]
      exact c
    refine L79 hh v c2 mo q2 4 0 (by omega) (H _ F2 G2 ?_ (fun p hp => by rw [a1 p (by omega), f1 p (by omega)]) a2)
    unfold sCalm
    rw [if_pos (by omega)]
  refine T79_0 hh ⟨ra, ?_⟩
  split
  · refine ⟨rx, ?_⟩
    split
    · exact bad (by omega)
    split
    · exact bad (by omega)
    exact go (by omega) (by omega)
  · split
    · refine ⟨rx, ?_⟩
      split
      · exact bad (by omega)
      split
      · exact bad (by omega)
      exact go (by omega) (by omega)
    · exact bad (by omega)
end SMOOTH
