/-! forget, drift -/
section DRIFT
variable {S L : Nat} {F G : Nat → Nat → Int} {h : Nat → Nat → Option Nat} {Q : Option V2 → W2 → Prop}
def rForgetX (r : Row) (lo hi : Nat) : Row := fun j => if j = 1 then r 1 - 1 else if lo ≤ j ∧ j < hi then r (j + 8) else r j
theorem rForgetX_end {r : Row} {i : Nat} (hi : (i : Int) < r 1) : rForgetX r (70 + 8 * i) (70 + 8 * ((r 1).toNat - 1)) = rForget r i := by
  funext j
  unfold rForgetX rForget
  by_cases q : j = 1
  · rw [if_pos q, if_pos q]
  · rw [if_neg q, if_neg q]
    by_cases q2 : 70 + 8 * i ≤ j ∧ j < 62 + 8 * (r 1).toNat
    · rw [if_pos (by omega), if_pos q2]
    · rw [if_neg (by omega), if_neg q2]
theorem rForgetX_step {r : Row} {i k j : Nat} (hik : i ≤ k) (hj : j ≠ 1) : rForgetX r (70 + 8 * i) (70 + 8 * (k + 1)) j = if 70 + 8 * k ≤ j ∧ j < 78 + 8 * k then r (j + 8) else rForgetX r (70 + 8 * i) (70 + 8 * k) j := by
  unfold rForgetX
  rw [if_neg hj, if_neg hj]
  by_cases q1 : 70 + 8 * k ≤ j ∧ j < 78 + 8 * k
  · rw [if_pos q1, if_pos (by omega)]
  · rw [if_neg q1]
    by_cases q3 : 70 + 8 * i ≤ j ∧ j < 70 + 8 * k
    · rw [if_pos q3, if_pos (by omega)]
    · rw [if_neg q3, if_neg (by omega)]
theorem rForgetX_hi {r : Row} {i k j : Nat} (hj : 70 + 8 * k ≤ j) : rForgetX r (70 + 8 * i) (70 + 8 * k) j = r j := by
  unfold rForgetX
  rw [if_neg (by omega), if_neg (by omega)]
theorem L40 (hh : RfH h) {r : Row} (v : Yvd r) {i : Nat} (hi : (i : Int) < r 1) (H : ∀ F', Ytk F' 1 (rForgetX r (70 + 8 * i) (70 + 8 * ((r 1).toNat - 1))) → (∀ p, p = 0 ∨ 19 ≤ p → F' p = F p) → Q (some (vi (r 1 - 1))) (Wd S L F' G h)) : ∀ (m k : Nat) (F1 : Nat → Nat → Int), k + m = (r 1).toNat - 1 → i ≤ k → Ytk F1 1 (rForgetX r (70 + 8 * i) (70 + 8 * k)) → (∀ p, p = 0 ∨ 19 ≤ p → F1 p = F p) → C40_28 (k : Int) (Wd S L F1 G h) Q
  | 0, k, F1, e, hik, t, hf => by
    have hn := v.w
    have e6 : F1 1 13 = r 1 - 1 := t.w1
    refine T40_28 hh ?_
    simp only [e6]
    refine ⟨by omega, by omega, ?_⟩
    rw [if_pos (by omega)]
    have : k = (r 1).toNat - 1 := by omega
    subst this
    exact H F1 t hf
  | m + 1, k, F1, e, hik, t, hf => by
    have hn := v.w
    have e6 : F1 1 13 = r 1 - 1 := t.w1
    refine T40_28 hh ?_
    simp only [e6]
    refine ⟨by omega, by omega, ?_⟩
    rw [if_neg (by omega)]
    have ek0 : ((k : Nat) : Int).toNat = k := by omega
    have ek : ((k : Int) + 1).toNat = k + 1 := by omega
    rw [ek0, ek]
    refine ⟨by omega, by omega, fun F6 e6' => ?_⟩
    have h1 : F1 8 (k + 1) = r (70 + 8 * (k + 1)) := by rw [t.wt1 (k + 1) (by omega)]; exact rForgetX_hi (by omega)
    have h2 : F1 9 (k + 1) = r (71 + 8 * (k + 1)) := by rw [t.sz1 (k + 1) (by omega)]; exact rForgetX_hi (by omega)
    rw [h1, h2] at e6'
    have o : ∀ p, p ≠ 8 → p ≠ 9 → p ≠ 11 + k → F6 p = F1 p := fun p q1 q2 q3 => by rw [← e6', row_out q3, up_out q2, up_out q1]
    have o8 : ∀ j, F6 8 j = if j = k then r (70 + 8 * (k + 1)) else F1 8 j := fun j => by rw [← e6', row_out (by omega), up_out (by omega), up_at]
    have o9 : ∀ j, F6 9 j = if j = k then r (71 + 8 * (k + 1)) else F1 9 j := fun j => by rw [← e6', row_out (by omega), up_at, up_out (by omega)]
    have o11 : ∀ j, j < 6 → F6 (11 + k) j = F1 (11 + (k + 1)) j := fun j hj => by
      rw [← e6', row_in, cpy0 hj, up_out (by omega), up_out (by omega)]
    refine L40 hh v hi H m (k + 1) F6 (by omega) (by omega) ?_ ?_
    · refine Ytk.mk1 ⟨?_, ?_, ?_, ?_, ?_, ?_, ?_, ?_, ?_, ?_, ?_, ?_, ?_, ?_, ?_⟩
      · rw [o 1 (by decide) (by decide) (by omega), rForgetX_step hik (by omega), if_neg (by omega)]; exact t.n1
      · rw [o 1 (by decide) (by decide) (by omega), rForgetX_step hik (by omega), if_neg (by omega)]; exact t.lo1
      · rw [o 1 (by decide) (by decide) (by omega), rForgetX_step hik (by omega), if_neg (by omega)]; exact t.by1
      · rw [o 1 (by decide) (by decide) (by omega), rForgetX_step hik (by omega), if_neg (by omega)]; exact t.wi1
      · rw [o 1 (by decide) (by decide) (by omega)]; exact t.w1
      · rw [o 1 (by decide) (by decide) (by omega), rForgetX_step hik (by omega), if_neg (by omega)]; exact t.dr1
      · intro j hj
        rw [o 2 (by decide) (by decide) (by omega), rForgetX_step hik (by omega), if_neg (by omega)]; exact t.op1 j hj
      · intro j hj
        rw [o 3 (by decide) (by decide) (by omega), rForgetX_step hik (by omega), if_neg (by omega)]; exact t.wd1 j hj
      · intro j hj
        rw [o 4 (by decide) (by decide) (by omega), rForgetX_step hik (by omega), if_neg (by omega)]; exact t.sh1 j hj
      · intro j hj
        rw [o 5 (by decide) (by decide) (by omega), rForgetX_step hik (by omega), if_neg (by omega)]; exact t.pu1 j hj
      · intro j hj
        rw [o 6 (by decide) (by decide) (by omega), rForgetX_step hik (by omega), if_neg (by omega)]; exact t.sg1 j hj
      · intro j hj
        rw [o 7 (by decide) (by decide) (by omega), rForgetX_step hik (by omega), if_neg (by omega)]; exact t.tm1 j hj
      · intro j hj
        rw [o8, rForgetX_step hik (by omega)]
        by_cases q : j = k
        · rw [if_pos q, if_pos (by omega), q]
          rw [show 70 + 8 * k + 8 = 70 + 8 * (k + 1) by omega]
        · rw [if_neg q, if_neg (by omega)]; exact t.wt1 j hj
      · intro j hj
        rw [o9, rForgetX_step hik (by omega)]
        by_cases q : j = k
        · rw [if_pos q, if_pos (by omega), q]
          rw [show 71 + 8 * k + 8 = 71 + 8 * (k + 1) by omega]
        · rw [if_neg q, if_neg (by omega)]; exact t.sz1 j hj
      · intro j hj k' hk' hl
        rw [rForgetX_step hik (by omega)] at hl
        rw [rForgetX_step hik (by omega)]
        by_cases q : j = k
        · subst q
          rw [if_pos (by omega)] at hl
          rw [if_pos (by omega), o11 k' hk']
          have := t.lt1 (j + 1) (by omega) k' hk' (by rw [rForgetX_hi (by omega), show 71 + 8 * (j + 1) = 71 + 8 * j + 8 by omega]; exact hl)
          rw [this, rForgetX_hi (by omega), show 72 + 8 * j + k' + 8 = 72 + 8 * (j + 1) + k' by omega]
        · rw [if_neg (by omega)] at hl
          rw [if_neg (by omega), o (11 + j) (by omega) (by omega) (by omega)]
          exact t.lt1 j hj k' hk' hl
    · intro p hp
      rw [← hf p hp, o p (by omega) (by omega) (by omega)]
theorem K40 (hh : RfH h) {r : Row} (t : Ytk F 1 r) (v : Yvd r) {a : Int} (r1 : R32 a)
    (H : ∀ (x : Int) (r' : Row) (F' : Nat → Nat → Int), sForget r a = (x, r') → Ytk F' 1 r' → (∀ p, p = 0 ∨ 19 ≤ p → F' p = F p) → Q (some (vi x)) (Wd S L F' G h)) : C40_0 a (Wd S L F G h) Q := by
  have hn := v.w
  have e6 : F 1 13 = r 1 := t.w1
  refine T40_0 hh ⟨r1, ?_⟩
  simp only [e6]
  split
  · exact H (-1) r F (by unfold sForget; rw [if_neg (by omega)]) t (fun p hp => rfl)
  refine ⟨by omega, ?_⟩
  split
  · exact H (-1) r F (by unfold sForget; rw [if_neg (by omega)]) t (fun p hp => rfl)
  have ea : ((a.toNat : Nat) : Int) = a := by omega
  have := L40 (F := F) (G := G) (h := h) (S := S) (L := L) (Q := Q) hh v (i := a.toNat) (by omega) (fun F' t' hf => H (r 1 - 1) (rForget r a.toNat) F' (by unfold sForget; rw [if_pos (by omega)]) (by rw [← rForgetX_end (by omega)]; exact t') hf) ((r 1).toNat - 1 - a.toNat) a.toNat (am_up F 1 13 (r 1 - 1)) (by omega) (Nat.le_refl _) (by
    have e0 : ∀ j, j ≠ 1 → rForgetX r (70 + 8 * a.toNat) (70 + 8 * a.toNat) j = r j := fun j hj => by
      unfold rForgetX
      rw [if_neg hj, if_neg (by omega)]
    refine Ytk.mk1 ⟨by rw [e0 _ (by omega)]; exact t.n1, by rw [e0 _ (by omega)]; exact t.lo1, by rw [e0 _ (by omega)]; exact t.by1, by rw [e0 _ (by omega)]; exact t.wi1, rfl, by rw [e0 _ (by omega)]; exact t.dr1, fun k' hk' => by rw [e0 _ (by omega)]; exact t.op1 k' hk', fun k' hk' => by rw [e0 _ (by omega)]; exact t.wd1 k' hk', fun k' hk' => by rw [e0 _ (by omega)]; exact t.sh1 k' hk', fun k' hk' => by rw [e0 _ (by omega)]; exact t.pu1 k' hk', fun k' hk' => by rw [e0 _ (by omega)]; exact t.sg1 k' hk', fun k' hk' => by rw [e0 _ (by omega)]; exact t.tm1 k' hk', fun k' hk' => by rw [e0 _ (by omega)]; exact t.wt1 k' hk', fun k' hk' => by rw [e0 _ (by omega)]; exact t.sz1 k' hk', fun j hj k' hk' hl => ?_⟩
    rw [e0 _ (by omega)] at hl
    rw [e0 _ (by omega)]
    have := t.lt1 j hj k' hk' hl
    simp only [am_up]
    rw [if_neg (by omega)]
    exact this) (by
    intro p hp
    funext q
    simp only [am_up]
    rw [if_neg (by omega)])
  rw [ea] at this
  exact this
theorem K81 (hh : RfH h) {r : Row} {n : Nat} {R : Nat → Row} (c : Yc F h r n R) {a : Int} (ra : R32 a)
    (H : ∀ (F' : Nat → Nat → Int) (h' : Nat → Nat → Option Nat), RfH h' → Yc F' h' (sForget r a).2 (if (sForget r a).1 < 0 then n else pushN n) (if (sForget r a).1 < 0 then R else pushR n R r) → (∀ p, p = 0 ∨ 147 ≤ p → F' p = F p) → (∀ p, p ≠ 38 → h' p = h p) → Q (some (vi (sForget r a).1)) (Wd S L F' G h')) : C81_0 a (Wd S L F G h) Q :=
  T81_0 hh (tellC (call := C40_0 a) hh c (Yvd_sForget c.2.1 _) (R32_sForget c.2.1 _) (fun F1 Q1 t1 k1 => K40 hh t1 c.2.1 ra k1) H)
def ydr (y : Int) : Int := (Int64.ofInt ((y * 1103515245) + 12345) &&& Int64.ofInt 2147483647).toInt
theorem ydr_bd (y : Int) : 0 ≤ ydr y ∧ ydr y ≤ 2147483647 := by
  unfold ydr
  have h1 : ((Int64.ofInt ((y * 1103515245) + 12345) &&& Int64.ofInt 2147483647).toBitVec.toNat) ≤ 2147483647 := by
    show ((Int64.ofInt ((y * 1103515245) + 12345)).toBitVec &&& (Int64.ofInt 2147483647).toBitVec).toNat ≤ _
    rw [BitVec.toNat_and]
    exact Nat.and_le_right
  have h2 : (Int64.ofInt ((y * 1103515245) + 12345) &&& Int64.ofInt 2147483647).toInt = ((Int64.ofInt ((y * 1103515245) + 12345) &&& Int64.ofInt 2147483647).toBitVec.toNat : Int) := by
    show BitVec.toInt _ = _
    rw [BitVec.toInt_eq_toNat_of_lt]
    omega
  rw [h2]
  omega
def rDrift (r : Row) : Row :=
  if ydr (r 5) / 65536 % 8 = 3 then (sSign (yu1 r 5 (ydr (r 5))) (ydr (r 5) / 65536 / 8 % 12) (ydr (r 5) / 65536 / 128 % 12 % 8) (ydr (r 5) / 65536 / 2048 % 6)).2
  else if ydr (r 5) / 65536 % 8 = 4 then (sShape (yu1 r 5 (ydr (r 5))) (ydr (r 5) / 65536 / 8 % 12 % 8) (ydr (r 5) / 65536 / 128 % 12) (ydr (r 5) / 65536 / 2048 % 13)).2
  else if ydr (r 5) / 65536 % 8 = 5 then (sOut (yu1 r 5 (ydr (r 5))) (ydr (r 5) / 65536 / 8 % 12)).2
  else if ydr (r 5) / 65536 % 8 = 6 then (sFrame (yu1 r 5 (ydr (r 5))) (ydr (r 5) / 65536 / 8 % 12 + 1) (ydr (r 5) / 65536 / 128 % 12 % 2 + 1)).2
  else if ydr (r 5) / 65536 % 8 = 7 then (sWindow (yu1 r 5 (ydr (r 5))) (ydr (r 5) / 65536 / 8 % 12 % 4)).2
  else (sSound (yu1 r 5 (ydr (r 5))) (ydr (r 5) / 65536 / 8 % 12) (ydr (r 5) / 65536 / 128 % 12 + 1)).2
theorem Yvd_rDrift {r : Row} (v : Yvd r) : Yvd (rDrift r) := by
  have v0 := Yvd_draw v (ydr_bd (r 5))
  unfold rDrift
  split
  · exact Yvd_sSign v0 _ _ _
  split
  · exact Yvd_sShape v0 _ _ _
  split
  · exact Yvd_sOut v0 _
  split
  · exact Yvd_sFrame v0 _ _
  split
  · exact Yvd_sWindow v0 _
  · exact Yvd_sSound v0 _ _
theorem K46 (hh : RfH h) {r : Row} (t : Ytk F 1 r) (v : Yvd r) (H : ∀ F' : Nat → Nat → Int, Ytk F' 1 (rDrift r) → (∀ p, p = 0 ∨ 19 ≤ p → F' p = F p) → Q none (Wd S L F' G h)) : C46_0 (Wd S L F G h) Q := by
  have hd := ydr_bd (r 5)
  have v0 := Yvd_draw v hd
  have e14 := t.dr1
  have hr5 := v.dr
  unfold rDrift at H
  refine T46_0 hh ?_
  rw [e14]
  rw [show (Int64.ofInt ((r 5 * 1103515245) + 12345) &&& Int64.ofInt 2147483647).toInt = ydr (r 5) from rfl]
  have t0 : Ytk (am_up F 1 14 (ydr (r 5))) 1 (yu1 r 5 (ydr (r 5))) := by
    refine Ytk.mk1 ⟨by have := t.n1; simp only [am_up, yu1, if_true] <;> (repeat' split) <;> omega, by have := t.lo1; simp only [am_up, yu1, if_true] <;> (repeat' split) <;> omega, by have := t.by1; simp only [am_up, yu1, if_true] <;> (repeat' split) <;> omega, by have := t.wi1; simp only [am_up, yu1, if_true] <;> (repeat' split) <;> omega, by have := t.w1; simp only [am_up, yu1, if_true] <;> (repeat' split) <;> omega, by have := t.dr1; simp only [am_up, yu1, if_true] <;> (repeat' split) <;> omega, fun k' hk' => by have := t.op1 k' hk'; simp only [am_up, yu1, if_true] <;> (repeat' split) <;> omega, fun k' hk' => by have := t.wd1 k' hk'; simp only [am_up, yu1, if_true] <;> (repeat' split) <;> omega, fun k' hk' => by have := t.sh1 k' hk'; simp only [am_up, yu1, if_true] <;> (repeat' split) <;> omega, fun k' hk' => by have := t.pu1 k' hk'; simp only [am_up, yu1, if_true] <;> (repeat' split) <;> omega, fun k' hk' => by have := t.sg1 k' hk'; simp only [am_up, yu1, if_true] <;> (repeat' split) <;> omega, fun k' hk' => by have := t.tm1 k' hk'; simp only [am_up, yu1, if_true] <;> (repeat' split) <;> omega, fun k' hk' => by have := t.wt1 k' hk'; simp only [am_up, yu1, if_true] <;> (repeat' split) <;> omega, fun k' hk' => by have := t.sz1 k' hk'; simp only [am_up, yu1, if_true] <;> (repeat' split) <;> omega, fun j hj k hk hl => ?_⟩
    have hl2 : (k : Int) < r (71 + 8 * j) := by
      simp only [yu1] at hl; rw [if_neg (by omega)] at hl; exact hl
    have := t.lt1 j hj k hk hl2
    simp only [am_up, yu1]
    rw [if_neg (by omega), if_neg (by omega)]
    exact this
  have f0 : ∀ (F' : Nat → Nat → Int), (∀ p, p = 0 ∨ 19 ≤ p → F' p = am_up F 1 14 (ydr (r 5)) p) → ∀ p, p = 0 ∨ 19 ≤ p → F' p = F p := fun F' hf p hp => by
    rw [hf p hp, up_out (by omega)]
  generalize ydr (r 5) = y at hd t0 f0 H v0 ⊢
  refine ⟨by omega, by omega, by omega, by omega, by omega, by omega, ?_⟩
  split
  · rename_i c
    rw [if_neg (by omega), if_neg (by omega), if_neg (by omega), if_neg (by omega), if_neg (by omega)] at H
    exact K32 hh t0 v0 (by omega) (by omega) (fun x r' F' hs t' hf => ⟨_, _, rfl, rfl, H F' (by rw [hs]; exact t') (f0 F' hf)⟩)
  split
  · rename_i c
    rw [if_neg (by omega), if_neg (by omega), if_neg (by omega), if_neg (by omega), if_neg (by omega)] at H
    exact K32 hh t0 v0 (by omega) (by omega) (fun x r' F' hs t' hf => ⟨_, _, rfl, rfl, H F' (by rw [hs]; exact t') (f0 F' hf)⟩)
  split
  · rename_i c
    rw [if_neg (by omega), if_neg (by omega), if_neg (by omega), if_neg (by omega), if_neg (by omega)] at H
    exact K32 hh t0 v0 (by omega) (by omega) (fun x r' F' hs t' hf => ⟨_, _, rfl, rfl, H F' (by rw [hs]; exact t') (f0 F' hf)⟩)
  split
  · rename_i c
    rw [if_pos c] at H
    exact ⟨by omega, by omega, K31 hh t0 v0 (by omega) (by omega) (by omega) (fun x r' F' hs t' hf => ⟨_, _, rfl, rfl, H F' (by rw [hs]; exact t') (f0 F' hf)⟩)⟩
  split
  · rename_i c
    rw [if_neg (by omega), if_pos c] at H
    exact ⟨by omega, by omega, K30 hh t0 v0 (by omega) (by omega) (by omega) (fun x r' F' hs t' hf => ⟨_, _, rfl, rfl, H F' (by rw [hs]; exact t') (f0 F' hf)⟩)⟩
  split
  · rename_i c
    rw [if_neg (by omega), if_neg (by omega), if_pos c] at H
    exact K33 hh t0 v0 (by omega) (fun x r' F' hs t' hf => ⟨_, _, rfl, rfl, H F' (by rw [hs]; exact t') (f0 F' hf)⟩)
  split
  · rename_i c
    rw [if_neg (by omega), if_neg (by omega), if_neg (by omega), if_pos c] at H
    exact ⟨by omega, K34 hh t0 v0 (by omega) (by omega) (fun x r' F' hs t' hf => ⟨_, _, rfl, rfl, H F' (by rw [hs]; exact t') (f0 F' hf)⟩)⟩
  · rw [if_neg (by omega), if_neg (by omega), if_neg (by omega), if_neg (by omega), if_pos (by omega)] at H
    exact ⟨by omega, K35 hh t0 v0 (by omega) (fun x r' F' hs t' hf => ⟨_, _, rfl, rfl, H F' (by rw [hs]; exact t') (f0 F' hf)⟩)⟩
def dIt (r : Row) (n : Nat) (R : Nat → Row) : Nat → Row × Nat × (Nat → Row)
  | 0 => (r, n, R)
  | k + 1 => (rDrift (dIt r n R k).1, pushN (dIt r n R k).2.1, pushR (dIt r n R k).2.1 (dIt r n R k).2.2 (dIt r n R k).1)
theorem pushN_le {n : Nat} (h : n ≤ 6) : pushN n ≤ 6 := by
  unfold pushN
  split <;> omega
theorem dIt_n {r : Row} {n : Nat} {R : Nat → Row} (h : n ≤ 6) : ∀ k, (dIt r n R k).2.1 ≤ 6
  | 0 => h
  | k + 1 => pushN_le (dIt_n h k)
theorem Yvd_push {n : Nat} {R : Nat → Row} {r : Row} (hn : n ≤ 6) (v : Yvd r) (c5 : ∀ i, i < n → Yvd (R i)) : ∀ i, i < pushN n → Yvd (pushR n R r i) := fun i hi => by
  unfold pushR
  unfold pushN at hi
  split
  · rename_i h6
    rw [if_pos h6] at hi
    split
    · exact c5 (i + 1) (by omega)
    · exact v
  · rename_i h6
    rw [if_neg h6] at hi
    split
    · exact v
    · exact c5 i (by omega)
theorem L87 {r : Row} {n : Nat} {R : Nat → Row} {a : Int} (ha : 1 ≤ a ∧ a ≤ 40) (H : ∀ (F' : Nat → Nat → Int) (h' : Nat → Nat → Option Nat), RfH h' → Yc F' h' (dIt r n R a.toNat).1 (dIt r n R a.toNat).2.1 (dIt r n R a.toNat).2.2 → (∀ p, p = 0 ∨ 147 ≤ p → F' p = F p) → (∀ p, p ≠ 38 → h' p = h p) → Q (some (vi ((dIt r n R a.toNat).1 0))) (Wd S L F' G h')) :
    ∀ (m k : Nat) (F1 : Nat → Nat → Int) (h1 : Nat → Nat → Option Nat), k + m = a.toNat → RfH h1 → Yc F1 h1 (dIt r n R k).1 (dIt r n R k).2.1 (dIt r n R k).2.2 → (∀ p, p = 0 ∨ 147 ≤ p → F1 p = F p) → (∀ p, p ≠ 38 → h1 p = h p) → C87_14 a (k : Int) (Wd S L F1 G h1) Q
  | 0, k, F1, h1, e, hh, c, f, g => by
    refine T87_14 hh ⟨by omega, by omega, ?_⟩
    rw [if_pos (by omega), c.1.n1]
    have : k = a.toNat := by omega
    subst this
    exact H F1 h1 hh c f g
  | m + 1, k, F1, h1, e, hh, c, f, g => by
    refine T87_14 hh ⟨by omega, by omega, ?_⟩
    rw [if_neg (by omega)]
    obtain ⟨c1, c2, ⟨q, c3, c4⟩, c5⟩ := c
    have hn := c4.2.1
    refine K14 hh rfl (by decide) c3 c4 c1 (fun F2 h2 q2 a1 a2 a3 a4 a5 => ⟨_, _, rfl, rfl, a1, ?_⟩)
    refine K46 a1 (c1.cong (fun x h1 h2 => a4 x (by omega))) c2 (fun F3 b1 b2 => ⟨_, rfl, rfl, ?_⟩)
    exact L87 ha H m (k + 1) F3 h2 (by omega) a1 ⟨b1, Yvd_rDrift c2, ⟨q2, a2, a3.cong a2 (fun p h1 h2 => b2 p (by omega))⟩, Yvd_push hn c2 c5⟩ (fun p hp => by rw [b2 p (by omega), a4 p (by omega), f p hp]) (fun p hp => by rw [a5 p hp, g p hp])
theorem K87 (hh : RfH h) {r : Row} {n : Nat} {R : Nat → Row} (c : Yc F h r n R) {a : Int} (ra : R32 a) (Hb : ¬ (1 ≤ a ∧ a ≤ 40) → Q (some (vi (-1))) (Wd S L F G h))
    (H : (1 ≤ a ∧ a ≤ 40) → ∀ (F' : Nat → Nat → Int) (h' : Nat → Nat → Option Nat), RfH h' → Yc F' h' (dIt r n R a.toNat).1 (dIt r n R a.toNat).2.1 (dIt r n R a.toNat).2.2 → (∀ p, p = 0 ∨ 147 ≤ p → F' p = F p) → (∀ p, p ≠ 38 → h' p = h p) → Q (some (vi ((dIt r n R a.toNat).1 0))) (Wd S L F' G h')) : C87_0 a (Wd S L F G h) Q := by
  refine T87_0 hh ⟨ra, ?_⟩
  split
  · exact Hb (by omega)
  split
  · exact Hb (by omega)
  exact L87 (F := F) (h := h) (by omega) (H (by omega)) a.toNat 0 F h (by omega) hh c (fun p hp => rfl) (fun p hp => rfl)
end DRIFT
