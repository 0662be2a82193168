/-! guess, seen -/
section GUESS
def gmx (e : Nat → List Int) (w : Nat → Int) (c : List Int) : Nat → Int
  | 0 => 0
  | n + 1 => if e n = c then (if gmx e w c n < w n then w n else gmx e w c n) else gmx e w c n
abbrev gbest (e : Nat → List Int) (w : Nat → Int) (n j : Nat) : Prop := ∀ k, k < n → e k = e j → (w k < w j ∨ (w k = w j ∧ j ≤ k))
abbrev gfst (e : Nat → List Int) (j : Nat) : Prop := ∀ k, k < j → e k ≠ e j
theorem gmx_nn {e : Nat → List Int} {w : Nat → Int} (hw : ∀ k, 0 ≤ w k) (c : List Int) : ∀ n, 0 ≤ gmx e w c n
  | 0 => Int.le_refl 0
  | n + 1 => by
    have h1 := gmx_nn (e := e) hw c n
    have h2 := hw n
    show 0 ≤ (if e n = c then (if gmx e w c n < w n then w n else gmx e w c n) else gmx e w c n)
    split
    · split <;> omega
    · omega
theorem gmx_ge {e : Nat → List Int} {w : Nat → Int} {c : List Int} : ∀ {n k : Nat}, k < n → e k = c → w k ≤ gmx e w c n
  | n + 1, k, h, he => by
    show w k ≤ (if e n = c then (if gmx e w c n < w n then w n else gmx e w c n) else gmx e w c n)
    by_cases q : k = n
    · subst q
      rw [if_pos he]
      split <;> omega
    · have := gmx_ge (e := e) (w := w) (n := n) (k := k) (by omega) he
      split
      · split <;> omega
      · omega
theorem gmx_none {e : Nat → List Int} {w : Nat → Int} {c : List Int} : ∀ {n : Nat}, (∀ k, k < n → e k ≠ c) → gmx e w c n = 0
  | 0, _ => rfl
  | n + 1, h => by
    show (if e n = c then (if gmx e w c n < w n then w n else gmx e w c n) else gmx e w c n) = 0
    rw [if_neg (h n (by omega))]
    exact gmx_none (fun k hk => h k (by omega))
theorem gbest_ex {e : Nat → List Int} {w : Nat → Int} (hw : ∀ k, 0 < w k) {c : List Int} : ∀ {n k : Nat}, k < n → e k = c → ∃ b, b < n ∧ e b = c ∧ gbest e w n b ∧ w b = gmx e w c n
  | n + 1, k, hk, hc => by
    have em : gmx e w c (n + 1) = (if e n = c then (if gmx e w c n < w n then w n else gmx e w c n) else gmx e w c n) := rfl
    by_cases q : ∃ k, k < n ∧ e k = c
    · obtain ⟨k, h1, h2⟩ := q
      obtain ⟨b, b1, b2, b3, b4⟩ := gbest_ex hw h1 h2
      by_cases d : e n = c ∧ gmx e w c n < w n
      · refine ⟨n, by omega, d.1, fun i hi ei => ?_, by rw [em, if_pos d.1, if_pos d.2]⟩
        by_cases q2 : i = n
        · subst q2; right; omega
        · left
          have := gmx_ge (e := e) (w := w) (n := n) (k := i) (c := c) (by omega) (by rw [ei]; exact d.1)
          omega
      · have em2 : gmx e w c (n + 1) = gmx e w c n := by
          rw [em]
          by_cases d1 : e n = c
          · rw [if_pos d1, if_neg (fun q => d ⟨d1, q⟩)]
          · rw [if_neg d1]
        refine ⟨b, by omega, b2, fun i hi ei => ?_, by rw [em2]; exact b4⟩
        by_cases q2 : i = n
        · subst q2
          have : ¬ gmx e w c i < w i := fun q => d ⟨by rw [ei]; exact b2, q⟩
          omega
        · exact b3 i (by omega) ei
    · have hkn : k = n := by
        by_cases q2 : k = n
        · exact q2
        · exact absurd ⟨k, by omega, hc⟩ q
      subst hkn
      have hn : gmx e w c k = 0 := gmx_none (fun i hi ei => q ⟨i, hi, ei⟩)
      have hp := hw k
      refine ⟨k, by omega, hc, fun i hi ei => ?_, by rw [em, if_pos hc, if_pos (by omega)]⟩
      by_cases q2 : i = k
      · subst q2; right; omega
      · exact absurd ⟨i, by omega, by rw [ei]; exact hc⟩ q
theorem gbest_uniq {e : Nat → List Int} {w : Nat → Int} {n a b : Nat} (ha : a < n) (hb : b < n) (he : e a = e b) (h1 : gbest e w n a) (h2 : gbest e w n b) : a = b := by
  have q1 := h1 b hb he.symm
  have q2 := h2 a ha he
  omega
theorem gfst_ex {e : Nat → List Int} : ∀ {k : Nat}, ∃ m, m ≤ k ∧ e m = e k ∧ gfst e m := by
  intro k
  induction k using Nat.strongRecOn with
  | ind k ih =>
    by_cases q : ∃ i, i < k ∧ e i = e k
    · obtain ⟨i, h1, h2⟩ := q
      obtain ⟨m, a, b, c⟩ := ih i h1
      exact ⟨m, by omega, by rw [b, h2], c⟩
    · exact ⟨k, Nat.le_refl _, rfl, fun i hi ei => q ⟨i, hi, ei⟩⟩
theorem ysm_one {f g : Nat → Int} {i : Nat} {n : Nat} (hi : i < n) (h : ∀ k, k < n → k ≠ i → g k = f k) : ysm g n = ysm f n + (g i - f i) := by
  have e : ysm g n = ysm (yu1 f i (g i)) n := ysm_cong (fun k hk => by
    unfold yu1
    by_cases q : k = i
    · rw [if_pos q, q]
    · rw [if_neg q]; exact h k hk q)
  rw [e, ysm_up, if_pos hi]
def gB (e : Nat → List Int) (w : Nat → Int) (n : Nat) : Nat → Int := fun j => if gbest e w n j then w j else 0
def gM (e : Nat → List Int) (w : Nat → Int) (n : Nat) : Nat → Int := fun j => if gfst e j then gmx e w (e j) n else 0
def gD (e : Nat → List Int) (w : Nat → Int) : Nat → Int := fun n => if gmx e w (e n) n < w n then w n - gmx e w (e n) n else 0
theorem gM_sum {e : Nat → List Int} {w : Nat → Int} (hw : ∀ k, 0 < w k) : ∀ n, ysm (gM e w n) n = ysm (gD e w) n
  | 0 => rfl
  | n + 1 => by
    have ih := gM_sum (e := e) hw n
    have em : ∀ c, gmx e w c (n + 1) = (if e n = c then (if gmx e w c n < w n then w n else gmx e w c n) else gmx e w c n) := fun c => rfl
    show ysm (gM e w (n + 1)) n + gM e w (n + 1) n = ysm (gD e w) n + gD e w n
    have hp := hw n
    by_cases q : gfst e n
    · have e1 : ysm (gM e w (n + 1)) n = ysm (gM e w n) n := ysm_cong (fun k hk => by
        unfold gM
        have z : ¬ (e n = e k) := fun x => q k hk x.symm
        rw [em (e k), if_neg z])
      have hn : gmx e w (e n) n = 0 := gmx_none (fun k hk => q k hk)
      have e2 : gM e w (n + 1) n = w n := by
        unfold gM
        rw [if_pos q, em, if_pos rfl, hn, if_pos hp]
      have e3 : gD e w n = w n := by
        unfold gD
        rw [hn, if_pos hp]; omega
      omega
    · obtain ⟨m, m1, m2, m3⟩ := gfst_ex (e := e) (k := n)
      have hmn : m < n := by
        by_cases x : m = n
        · subst x; exact absurd m3 q
        · omega
      have e2 : gM e w (n + 1) n = 0 := by unfold gM; rw [if_neg q]
      have e1 := ysm_one (f := gM e w n) (g := gM e w (n + 1)) hmn (fun k hk hkm => by
        unfold gM
        by_cases x : gfst e k
        · rw [if_pos x, if_pos x, em, if_neg]
          intro y
          have y1 : e m = e k := by rw [m2, y]
          by_cases z : m < k
          · exact x m z y1
          · exact m3 k (by omega) y1.symm
        · rw [if_neg x, if_neg x])
      have e3 : gM e w (n + 1) m - gM e w n m = gD e w n := by
        unfold gM gD
        rw [if_pos m3, if_pos m3, em, if_pos m2.symm, m2]
        split <;> omega
      omega
theorem gB_sum {e : Nat → List Int} {w : Nat → Int} (hw : ∀ k, 0 < w k) : ∀ n, ysm (gB e w n) n = ysm (gD e w) n
  | 0 => rfl
  | n + 1 => by
    have ih := gB_sum (e := e) hw n
    show ysm (gB e w (n + 1)) n + gB e w (n + 1) n = ysm (gD e w) n + gD e w n
    have hp := hw n
    by_cases q : gfst e n
    · have e1 : ysm (gB e w (n + 1)) n = ysm (gB e w n) n := ysm_cong (fun k hk => by
        have : gbest e w (n + 1) k ↔ gbest e w n k := ⟨fun x i hi ei => x i (by omega) ei, fun x i hi ei => by
          by_cases z : i = n
          · subst z; exact absurd ei.symm (q k hk)
          · exact x i (by omega) ei⟩
        unfold gB
        by_cases x : gbest e w n k
        · rw [if_pos x, if_pos (this.2 x)]
        · rw [if_neg x, if_neg (fun y => x (this.1 y))])
      have hn : gmx e w (e n) n = 0 := gmx_none (fun k hk => q k hk)
      have hb : gbest e w (n + 1) n := fun i hi ei => by
        by_cases z : i = n
        · subst z; right; omega
        · exact absurd ei (q i (by omega))
      have e2 : gB e w (n + 1) n = w n := by unfold gB; rw [if_pos hb]
      have e3 : gD e w n = w n := by
        unfold gD
        rw [hn, if_pos hp]; omega
      omega
    · obtain ⟨k0, k1, k2⟩ : ∃ k, k < n ∧ e k = e n := by
        by_cases x : ∃ k, k < n ∧ e k = e n
        · exact x
        · exact absurd (fun k hk ek => x ⟨k, hk, ek⟩) q
      obtain ⟨b, b1, b2, b3, b4⟩ := gbest_ex hw k1 k2
      by_cases d : gmx e w (e n) n < w n
      · have hb : gbest e w (n + 1) n := fun i hi ei => by
          by_cases z : i = n
          · subst z; right; omega
          · have := gmx_ge (e := e) (w := w) (n := n) (k := i) (c := e n) (by omega) ei
            left; omega
        have hbn : ¬ gbest e w (n + 1) b := fun x => by
          have := x n (by omega) b2.symm
          omega
        have e1 := ysm_one (f := gB e w n) (g := gB e w (n + 1)) b1 (fun k hk hkb => by
          unfold gB
          by_cases x : gbest e w n k
          · have hne : e k ≠ e n := fun y => hkb (gbest_uniq hk b1 (by rw [y, b2]) x b3)
            rw [if_pos x, if_pos]
            intro i hi ei
            by_cases z : i = n
            · subst z; exact absurd ei.symm hne
            · exact x i (by omega) ei
          · rw [if_neg x, if_neg]
            exact fun y => x (fun i hi ei => y i (by omega) ei))
        have e2 : gB e w (n + 1) n = w n := by unfold gB; rw [if_pos hb]
        have e3 : gB e w (n + 1) b = 0 := by unfold gB; rw [if_neg hbn]
        have e4 : gB e w n b = w b := by unfold gB; rw [if_pos b3]
        have e5 : gD e w n = w n - gmx e w (e n) n := by unfold gD; rw [if_pos d]
        omega
      · have hb : ¬ gbest e w (n + 1) n := fun x => by
          have := x b (by omega) b2
          omega
        have e1 : ysm (gB e w (n + 1)) n = ysm (gB e w n) n := ysm_cong (fun k hk => by
          unfold gB
          by_cases x : gbest e w n k
          · rw [if_pos x, if_pos]
            intro i hi ei
            by_cases z : i = n
            · subst z
              have hkb : k = b := gbest_uniq hk b1 (by rw [← ei, b2]) x b3
              subst hkb
              omega
            · exact x i (by omega) ei
          · rw [if_neg x, if_neg]
            exact fun y => x (fun i hi ei => y i (by omega) ei))
        have e2 : gB e w (n + 1) n = 0 := by unfold gB; rw [if_neg hb]
        have e5 : gD e w n = 0 := by unfold gD; rw [if_neg d]
        omega
end GUESS
section GUESS2
variable {S L : Nat} {F G : Nat → Nat → Int} {h : Nat → Nat → Option Nat} {Q : Option V2 → W2 → Prop}
def wwt (r : Row) : Nat → Int := fun j => if j < ywn r then r (70 + 8 * j) else 1
theorem wwt_in {r : Row} {j : Nat} (hj : j < ywn r) : wwt r j = r (70 + 8 * j) := by unfold wwt; rw [if_pos hj]
theorem wwt_pos {r : Row} (v : Yvd r) (j : Nat) : 0 < wwt r j := by
  unfold wwt
  split
  · rename_i c
    unfold ywn at c
    have := v.wp j (by omega)
    omega
  · decide
theorem wwt_bd {r : Row} (v : Yvd r) {j : Nat} (hj : j < ywn r) : 1 ≤ wwt r j ∧ wwt r j ≤ 9 := by
  have h1 := wwt_pos v j
  rw [wwt_in hj] at h1 ⊢
  have := ywn_le v
  have := v.wt j (by omega)
  omega
theorem L44 (hh : RfH h) {r : Row} (t : Ytk F 1 r) (v : Yvd r) {j : Nat} (hj : j < ywn r) (H1 : gbest (wlk r) (wwt r) (ywn r) j → Q (some (vi 1)) (Wd S L F G h)) (H0 : ¬ gbest (wlk r) (wwt r) (ywn r) j → Q (some (vi 0)) (Wd S L F G h)) : ∀ (m k : Nat), k + m = ywn r → (∀ i, i < k → wlk r i = wlk r j → (wwt r i < wwt r j ∨ (wwt r i = wwt r j ∧ j ≤ i))) → C44_8 (j : Int) (e8 (wlk r j)) (k : Int) (Wd S L F G h) Q
  | 0, k, e, hb => by
    have hw := v.w
    have hw8 := ywn_le v
    have ew : F 1 13 = r 1 := t.w1
    have e' := e
    unfold ywn at e'
    refine T44_8 hh ⟨by omega, by omega, ?_⟩
    rw [if_pos (by omega)]
    have : k = ywn r := by omega
    subst this
    exact H1 hb
  | m + 1, k, e, hb => by
    have hw := v.w
    have hw8 := ywn_le v
    have ew : F 1 13 = r 1 := t.w1
    have e' := e
    unfold ywn at e'
    have ek : F 8 ((k : Nat) : Int).toNat = wwt r k := by rw [wwt_in (by omega)]; exact t.wt1 k (by omega)
    have ej : F 8 ((j : Nat) : Int).toNat = wwt r j := by rw [wwt_in hj]; exact t.wt1 j (by omega)
    have bk := wwt_bd v (j := k) (by omega)
    have bj := wwt_bd v hj
    have hdk := wlk_dg v (j := k) (by omega)
    have hdj := wlk_dg v (j := j) (by omega)
    have hbk := e8_b hdk (wlk_len v (by omega))
    have hbj := e8_b hdj (wlk_len v (by omega))
    have nx : (wlk r k = wlk r j → (wwt r k < wwt r j ∨ (wwt r k = wwt r j ∧ j ≤ k))) → C44_8 (j : Int) (e8 (wlk r j)) ((k : Int) + 1) (Wd S L F G h) Q := fun hk => by
      exact L44 hh t v hj H1 H0 m (k + 1) (by omega) (fun i hi ei => by
        by_cases z : i = k
        · subst z; exact hk ei
        · exact hb i (by omega) ei)
    have cmp : ¬ (wwt r k < wwt r j ∨ (wwt r k = wwt r j ∧ j ≤ k)) → C41_0 (k : Int) (Wd S L F G h) (fun v w1 => ∃ (v9 : Int), v = some (vi v9) ∧ w1 = (Wd S L F G h) ∧
    (R32 v9 ∧
    R32 (e8 (wlk r j)) ∧
    (if v9 = e8 (wlk r j) then
     Q (some (vi 0)) (Wd S L F G h)
    else
     C44_8 (j : Int) (e8 (wlk r j)) ((k : Int) + 1) (Wd S L F G h) Q))) := fun hc => by
      refine K41 hh t v (by omega) ⟨_, rfl, rfl, by omega, by omega, ?_⟩
      by_cases z : wlk r k = wlk r j
      · rw [if_pos (by rw [z])]
        exact H0 (fun y => hc (y k (by omega) z))
      · rw [if_neg (fun y => z (e8_inj hdk hdj y))]
        exact nx (fun y => absurd y z)
    refine T44_8 hh ⟨by omega, by omega, ?_⟩
    rw [if_neg (by omega), ek, ej]
    refine ⟨by omega, by omega, by omega, by omega, ?_⟩
    by_cases c1 : wwt r j < wwt r k
    · rw [if_pos c1]
      exact cmp (by omega)
    rw [if_neg c1]
    by_cases c2 : wwt r k = wwt r j
    · rw [if_pos c2]
      refine ⟨by omega, ?_⟩
      by_cases c3 : (j : Int) ≤ (k : Int)
      · rw [if_pos c3]
        exact nx (fun _ => by omega)
      · rw [if_neg c3]
        exact cmp (by omega)
    · rw [if_neg c2]
      exact nx (fun _ => by omega)
theorem K44 (hh : RfH h) {r : Row} (t : Ytk F 1 r) (v : Yvd r) {j : Nat} (hj : j < ywn r) (H1 : gbest (wlk r) (wwt r) (ywn r) j → Q (some (vi 1)) (Wd S L F G h)) (H0 : ¬ gbest (wlk r) (wwt r) (ywn r) j → Q (some (vi 0)) (Wd S L F G h)) : C44_0 (j : Int) (Wd S L F G h) Q := by
  have hw8 := ywn_le v
  exact T44_0 hh (K41 hh t v (by omega) ⟨_, rfl, rfl, L44 hh t v hj H1 H0 (ywn r) 0 (by omega) (fun i hi => by omega)⟩)
theorem gB_bd {r : Row} (v : Yvd r) {k : Nat} (hk : k < ywn r) : 0 ≤ gB (wlk r) (wwt r) (ywn r) k ∧ gB (wlk r) (wwt r) (ywn r) k ≤ 9 := by
  have := wwt_bd v hk
  unfold gB
  split <;> omega
theorem L43 (hh : RfH h) {r : Row} (t : Ytk F 1 r) (v : Yvd r) (H : Q (some (vi (ysm (gB (wlk r) (wwt r) (ywn r)) (ywn r)))) (Wd S L F G h)) : ∀ (m k : Nat), k + m = ywn r → C43_4 (ysm (gB (wlk r) (wwt r) (ywn r)) k) (k : Int) (Wd S L F G h) Q
  | 0, k, e => by
    have hw := v.w
    have hw8 := ywn_le v
    have ew : F 1 13 = r 1 := t.w1
    have e' := e
    unfold ywn at e'
    refine T43_4 hh ⟨by omega, by omega, ?_⟩
    rw [if_pos (by omega)]
    have : k = ywn r := by omega
    subst this
    exact H
  | m + 1, k, e => by
    have hw := v.w
    have hw8 := ywn_le v
    have ew : F 1 13 = r 1 := t.w1
    have e' := e
    unfold ywn at e'
    have ek : F 8 ((k : Nat) : Int).toNat = wwt r k := by rw [wwt_in (by omega)]; exact t.wt1 k (by omega)
    have ih := L43 hh t v H m (k + 1) (by omega)
    have es : ysm (gB (wlk r) (wwt r) (ywn r)) (k + 1) = ysm (gB (wlk r) (wwt r) (ywn r)) k + gB (wlk r) (wwt r) (ywn r) k := rfl
    rw [es] at ih
    refine T43_4 hh ⟨by omega, by omega, ?_⟩
    rw [if_neg (by omega)]
    refine K44 hh t v (by omega) (fun q => ⟨_, rfl, rfl, by decide, ?_⟩) (fun q => ⟨_, rfl, rfl, by decide, ?_⟩)
    · rw [if_neg (by decide), ek]
      have : gB (wlk r) (wwt r) (ywn r) k = wwt r k := by unfold gB; rw [if_pos q]
      rw [this] at ih
      exact ⟨by omega, ih⟩
    · rw [if_pos rfl]
      have : gB (wlk r) (wwt r) (ywn r) k = 0 := by unfold gB; rw [if_neg q]
      rw [this, Int.add_zero] at ih
      exact ih
theorem K43 (hh : RfH h) {r : Row} (t : Ytk F 1 r) (v : Yvd r) (H : Q (some (vi (ysm (gB (wlk r) (wwt r) (ywn r)) (ywn r)))) (Wd S L F G h)) : C43_0 (Wd S L F G h) Q :=
  T43_0 hh (L43 hh t v H (ywn r) 0 (by omega))
theorem L45 (hh : RfH h) {r : Row} (t : Ytk F 1 r) (v : Yvd r) (H : Q (some (vi (ysm (wwt r) (ywn r)))) (Wd S L F G h)) : ∀ (m k : Nat), k + m = ywn r → C45_4 (ysm (wwt r) k) (k : Int) (Wd S L F G h) Q
  | 0, k, e => by
    have hw := v.w
    have ew : F 1 13 = r 1 := t.w1
    have e' := e
    unfold ywn at e'
    refine T45_4 hh ⟨by omega, by omega, ?_⟩
    rw [if_pos (by omega)]
    have : k = ywn r := by omega
    subst this
    exact H
  | m + 1, k, e => by
    have hw := v.w
    have hw8 := ywn_le v
    have ew : F 1 13 = r 1 := t.w1
    have e' := e
    unfold ywn at e'
    have ek : F 8 ((k : Nat) : Int).toNat = wwt r k := by rw [wwt_in (by omega)]; exact t.wt1 k (by omega)
    refine T45_4 hh ⟨by omega, by omega, ?_⟩
    rw [if_neg (by omega), ek]
    exact ⟨by omega, L45 hh t v H m (k + 1) (by omega)⟩
theorem K45 (hh : RfH h) {r : Row} (t : Ytk F 1 r) (v : Yvd r) (H : Q (some (vi (ysm (wwt r) (ywn r)))) (Wd S L F G h)) : C45_0 (Wd S L F G h) Q :=
  T45_0 hh (L45 hh t v H (ywn r) 0 (by omega))
/-! the reference's guess -/
theorem wset {r : Row} {l : List Int} {k : Nat} (hk : k < ywn r) : ((yset (yhas r l) (ywn r)).testBit k = true) = (wlk r k = l) := by
  rw [yset_bit _ hk]
  unfold yhas
  exact propext ⟨of_decide_eq_true, decide_eq_true⟩
theorem gM_bd {r : Row} (v : Yvd r) : 0 ≤ ysm (gB (wlk r) (wwt r) (ywn r)) (ywn r) ∧ ysm (gB (wlk r) (wwt r) (ywn r)) (ywn r) ≤ 72 := by
  have h1 := ysm_bd (f := gB (wlk r) (wwt r) (ywn r)) (c := 9) (n := ywn r) (fun k hk => gB_bd v hk)
  have hw8 := ywn_le v
  omega
theorem wwt_sum {r : Row} (v : Yvd r) (hn : 1 ≤ ywn r) : 1 ≤ ysm (wwt r) (ywn r) ∧ ysm (wwt r) (ywn r) ≤ 72 := by
  have h1 := ysm_bd (f := wwt r) (c := 9) (n := ywn r) (fun k hk => by have := wwt_bd v hk; omega)
  have h2 := ysm_ge (f := wwt r) (n := ywn r) (i := 0) (fun k hk => by have := wwt_bd v hk; omega) (by omega)
  have h3 := wwt_bd v (j := 0) (by omega)
  have hw8 := ywn_le v
  omega
def sGuess (r : Row) (a : Int) : Int := if a = 0 ∨ a = 1 then (if r 1 = 0 then -4 else yfr (ysm (gB (wlk r) (wwt r) (ywn r)) (ywn r)) (ysm (wwt r) (ywn r)) a) else -1
theorem R32_sGuess {r : Row} (v : Yvd r) (a : Int) : R32 (sGuess r a) := by
  have hw := v.w
  unfold sGuess
  split
  · split
    · decide
    · have b1 := gM_bd v
      have b2 := wwt_sum v (by unfold ywn; omega)
      have := yfr_bd (a := ysm (gB (wlk r) (wwt r) (ywn r)) (ywn r)) (b := ysm (wwt r) (ywn r)) (w := a) (M := 72) (by omega) (by omega)
      omega
  · decide
theorem K84 (hh : RfH h) {r : Row} (t : Ytk F 1 r) (v : Yvd r) {a : Int} (ra : R32 a) (H : Q (some (vi (sGuess r a))) (Wd S L F G h)) : C84_0 a (Wd S L F G h) Q := by
  have hw := v.w
  have ew : F 1 13 = r 1 := t.w1
  have both : a = 0 ∨ a = 1 → (R32 (F 1 13) ∧ (if (F 1 13) = 0 then Q (some (vi (-4))) (Wd S L F G h) else C43_0  (Wd S L F G h) (fun v w1 => ∃ (v13 : Int), v = some (vi v13) ∧ w1 = (Wd S L F G h) ∧
     (R32 v13 ∧
     C45_0  (Wd S L F G h) (fun v w1 => ∃ (v15 : Int), v = some (vi v15) ∧ w1 = (Wd S L F G h) ∧
      (R32 v15 ∧
      C105_0 v13 v15 a (Wd S L F G h) (fun v w1 => ∃ (v17 : Int), v = some (vj v17) ∧ w1 = (Wd S L F G h) ∧
       Q (some (vi v17)) (Wd S L F G h))))))) ) := fun ha => by
    unfold sGuess at H
    rw [if_pos ha] at H
    refine ⟨by omega, ?_⟩
    by_cases c : F 1 13 = 0
    · rw [if_pos (by omega)] at H
      rw [if_pos c]
      exact H
    · rw [if_neg (by omega)] at H
      rw [if_neg c]
      have b1 := gM_bd v
      have b2 := wwt_sum v (by unfold ywn; omega)
      exact K43 hh t v ⟨_, rfl, rfl, by omega, K45 hh t v ⟨_, rfl, rfl, by omega, K105 hh (by omega) (by omega) ra ⟨_, rfl, rfl, H⟩⟩⟩
  refine T84_0 hh ⟨ra, ?_⟩
  by_cases a0 : a = 0
  · rw [if_pos a0]
    exact both (Or.inl a0)
  rw [if_neg a0]
  by_cases a1 : a = 1
  · rw [if_pos a1]
    exact both (Or.inr a1)
  rw [if_neg a1]
  unfold sGuess at H
  rw [if_neg (by omega)] at H
  exact H
/-! seen -/
theorem L22 (hh : RfH h) {p : Nat} (sp : YSP p) {a n : Nat} (hn : n ≤ 6) (ha : a + n ≤ 24) {f : Nat → Int} (ef : ∀ k, k < n → G (p + 1) (a + k) = f k) (rf : ∀ k, k < n → R64 (f k)) (Hb : (∃ k, k < n ∧ ¬ (0 ≤ f k ∧ f k < 8)) → Q (some (vi (-2))) (Wd S L F G h)) (H : (∀ k, k < n → 0 ≤ f k ∧ f k < 8) → Q (some (vi (e8 (ylk f n)))) (Wd S L F G h)) : ∀ (m k : Nat), k + m = n → (∀ i, i < k → 0 ≤ f i ∧ f i < 8) → C22_5 p (a : Int) (n : Int) (e8 (ylk f k)) ((a : Int) + (k : Int)) (Wd S L F G h) Q
  | 0, k, e, hg => by
    refine T22_5 hh sp ⟨by omega, by omega, ?_⟩
    rw [if_pos (by omega)]
    have : k = n := by omega
    subst this
    exact H hg
  | m + 1, k, e, hg => by
    have ek : ((a : Int) + (k : Int)).toNat = a + k := by omega
    have hr := rf k (by omega)
    refine T22_5 hh sp ⟨by omega, by omega, ?_⟩
    rw [if_neg (by omega), ek, ef k (by omega)]
    refine ⟨by omega, hr, ?_⟩
    by_cases c : f k < 0
    · rw [if_pos c]
      exact Hb ⟨k, by omega, by omega⟩
    rw [if_neg c]
    by_cases d : f k < 8
    · rw [if_pos d]
      have hdg : Dg (ylk f k) := ylk_dg hg
      have hln := ylk_len f k
      have hb8 := e8_b hdg (by omega)
      refine ⟨by omega, ?_⟩
      refine e8_step hdg (by omega) (d := f k) (by omega) (C := fun x => C22_5 p (a : Int) (n : Int) x ((a : Int) + (k : Int) + 1) (Wd S L F G h) Q) ?_
      have := L22 hh sp hn ha ef rf Hb H m (k + 1) (by omega) (fun i hi => by
        by_cases q : i = k
        · subst q; omega
        · exact hg i (by omega))
      rw [show (a : Int) + ((k + 1 : Nat) : Int) = (a : Int) + (k : Int) + 1 by omega] at this
      exact this
    · rw [if_neg d]
      exact Hb ⟨k, by omega, by omega⟩
end GUESS2
