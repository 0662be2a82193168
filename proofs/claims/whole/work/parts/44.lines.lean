/-! read: a number of the reference; lines -/
section LINES
variable {S L : Nat} {F G : Nat → Nat → Int} {h : Nat → Nat → Option Nat} {Q : Option V2 → W2 → Prop} {tp : Nat → Int} {N : Nat}
theorem MS.set {F' : Nat → Nat → Int} {x y : YR} (c : MS tp N F x) (fq : FQ F F') (h1 : y.2 ≤ N) (h2 : F' 297 22 = (y.2 : Int)) (h3 : y.1 = true → F' 297 23 = 0) (h4 : y.1 = false → F' 297 23 = 1 ∧ (y.2 < N → tp y.2 ≠ 32)) : MS tp N F' y := ⟨c.1.fq fq, h1, h2, h3, h4⟩
theorem MS.v24 {x : YR} {v : Int} (c : MS tp N F x) : MS tp N (am_up F 297 24 v) x := by
  have fq : FQ F (am_up F 297 24 v) := FQ.up (Or.inr (Or.inr rfl))
  exact ⟨c.1.fq fq, c.2.1, by rw [up_at, if_neg (by decide)]; exact c.2.2.1, fun k => by rw [up_at, if_neg (by decide)]; exact c.2.2.2.1 k, fun k => by rw [up_at, if_neg (by decide)]; exact c.2.2.2.2 k⟩
theorem MS.up2 {q : Nat} {x : YR} {v : Int} {z : Int} (c : MS tp N F x) (hq : q ≤ N) (hz : z = (q : Int)) (h32 : q < N → tp q ≠ 32) : MS tp N (am_up (am_up (am_up F 297 24 v) 297 23 1) 297 22 z) (false, q) := by
  have fq : FQ F (am_up (am_up (am_up F 297 24 v) 297 23 1) 297 22 z) := ((FQ.up (Or.inr (Or.inr rfl))).trans (FQ.up (Or.inr (Or.inl rfl)))).trans (FQ.up (Or.inl rfl))
  exact ⟨c.1.fq fq, hq, by rw [up_at, if_pos rfl]; exact hz, fun k => by simp at k, fun _ => ⟨by rw [up_at, if_neg (by decide), up_at, if_pos rfl], h32⟩⟩
theorem K176t (hh : RfH h) {x : YR} {F2 F5 : Nat → Nat → Int} {v1 : Int} (e2 : F2 297 22 = ((ysk tp N x.2 : Nat) : Int)) (hp : x.2 ≤ N) (s : ystep x N tp (yok tp N 48 57 (ysk tp N x.2)) F5) (hv : yok tp N 48 57 (ysk tp N x.2) → v1 = tp (ysk tp N x.2)) (rv : 0 ≤ v1 ∧ v1 ≤ 126)
    (H : ∀ F' : Nat → Nat → Int, MS tp N F' (yrb x (pnum tp N)) → ((yrb x (pnum tp N)).1 = true → F' 297 24 = ynv tp N (ysk tp N x.2)) → FQ F5 F' → Q none (Wd S L F' G h)) :
    (R32 (F5 297 23) ∧
     (if (F5 297 23) = 0 then
      (R32 (F5 297 22) ∧
      R32 (F5 297 7) ∧
      (if (F5 297 7) ≤ (F5 297 22) then
       (R32 (v1 - 48) ∧
       (if (v1 - 48) < 1 then
        Q (none) (Wd S L (am_up (am_up (am_up F5 297 24 (v1 - 48)) 297 23 1) 297 22 (F2 297 22)) G h)
       else
        (if 12 < (v1 - 48) then
         Q (none) (Wd S L (am_up (am_up (am_up F5 297 24 (v1 - 48)) 297 23 1) 297 22 (F2 297 22)) G h)
        else
         Q (none) (Wd S L (am_up F5 297 24 (v1 - 48)) G h))))
      else
       ((0 ≤ (F5 297 22) ∧ (F5 297 22) < 90) ∧
       R32 (F5 302 (F5 297 22).toNat) ∧
       (if (F5 302 (F5 297 22).toNat) < 48 then
        (R32 (v1 - 48) ∧
        (if (v1 - 48) < 1 then
         Q (none) (Wd S L (am_up (am_up (am_up F5 297 24 (v1 - 48)) 297 23 1) 297 22 (F2 297 22)) G h)
        else
         (if 12 < (v1 - 48) then
          Q (none) (Wd S L (am_up (am_up (am_up F5 297 24 (v1 - 48)) 297 23 1) 297 22 (F2 297 22)) G h)
         else
          Q (none) (Wd S L (am_up F5 297 24 (v1 - 48)) G h))))
       else
        (if 57 < (F5 302 (F5 297 22).toNat) then
         (R32 (v1 - 48) ∧
         (if (v1 - 48) < 1 then
          Q (none) (Wd S L (am_up (am_up (am_up F5 297 24 (v1 - 48)) 297 23 1) 297 22 (F2 297 22)) G h)
         else
          (if 12 < (v1 - 48) then
           Q (none) (Wd S L (am_up (am_up (am_up F5 297 24 (v1 - 48)) 297 23 1) 297 22 (F2 297 22)) G h)
          else
           Q (none) (Wd S L (am_up F5 297 24 (v1 - 48)) G h))))
        else
         (R32 (((10 * (v1 - 48)) + (F5 302 (F5 297 22).toNat)) - 48) ∧
         (if (((10 * (v1 - 48)) + (F5 302 (F5 297 22).toNat)) - 48) < 1 then
          Q (none) (Wd S L (am_up (am_up (am_up (am_up (am_up F5 297 24 (v1 - 48)) 297 24 (((10 * (v1 - 48)) + (F5 302 (F5 297 22).toNat)) - 48)) 297 22 ((F5 297 22) + 1)) 297 23 1) 297 22 (F2 297 22)) G h)
         else
          (if 12 < (((10 * (v1 - 48)) + (F5 302 (F5 297 22).toNat)) - 48) then
           Q (none) (Wd S L (am_up (am_up (am_up (am_up (am_up F5 297 24 (v1 - 48)) 297 24 (((10 * (v1 - 48)) + (F5 302 (F5 297 22).toNat)) - 48)) 297 22 ((F5 297 22) + 1)) 297 23 1) 297 22 (F2 297 22)) G h)
          else
           Q (none) (Wd S L (am_up (am_up (am_up F5 297 24 (v1 - 48)) 297 24 (((10 * (v1 - 48)) + (F5 302 (F5 297 22).toNat)) - 48)) 297 22 ((F5 297 22) + 1)) G h)))))))))
     else
      Q (none) (Wd S L (am_up F5 297 24 (v1 - 48)) G h))) := by
  have hb := ysk_bd (tp := tp) hp
  have bad : ∀ y : Nat, yrb x (pnum tp N) = (false, y) → MS tp N F5 (false, y) → (R32 (F5 297 23) ∧ (¬ F5 297 23 = 0) ∧ Q none (Wd S L (am_up F5 297 24 (v1 - 48)) G h)) := fun y ey c => by
    have c5 := (c.2.2.2.2 rfl).1
    refine ⟨by omega, by omega, H _ (by rw [ey]; exact c.v24) (fun k => by rw [ey] at k; simp at k) (FQ.up (Or.inr (Or.inr rfl)))⟩
  cases e : x.1
  · have c := s.2 e
    have ex : x = (false, x.2) := by rw [← e]
    obtain ⟨b1, b2, b3⟩ := bad x.2 (by unfold yrb; rw [if_neg (by rw [e]; simp)]; exact ex) (by rw [← ex]; exact c)
    refine ⟨b1, ?_⟩
    rw [if_neg b2]
    exact b3
  have ey : yrb x (pnum tp N) = pnum tp N x.2 := by unfold yrb; rw [if_pos e]
  by_cases k : yok tp N 48 57 (ysk tp N x.2)
  · have c := (s.1 e).1 k
    have hv1 := hv k
    obtain ⟨k1, k2, k3⟩ := k
    have t5 := c.1
    have N90 := t5.2.1
    have eN := t5.1
    have e22 : F5 297 22 = ((ysk tp N x.2 + 1 : Nat) : Int) := c.2.2.1
    have e23 : F5 297 23 = 0 := c.2.2.2.1 rfl
    have hq32 : ysk tp N x.2 < N → tp (ysk tp N x.2) ≠ 32 := fun _ => by omega
    have one : ¬ (ysk tp N x.2 + 1 < N ∧ 48 ≤ tp (ysk tp N x.2 + 1) ∧ tp (ysk tp N x.2 + 1) ≤ 57) → (R32 (v1 - 48) ∧
      (if (v1 - 48) < 1 then
       Q (none) (Wd S L (am_up (am_up (am_up F5 297 24 (v1 - 48)) 297 23 1) 297 22 (F2 297 22)) G h)
      else
       (if 12 < (v1 - 48) then
        Q (none) (Wd S L (am_up (am_up (am_up F5 297 24 (v1 - 48)) 297 23 1) 297 22 (F2 297 22)) G h)
       else
        Q (none) (Wd S L (am_up F5 297 24 (v1 - 48)) G h)))) := fun hno => by
      have ev : ynv tp N (ysk tp N x.2) = tp (ysk tp N x.2) - 48 := by unfold ynv; rw [if_neg hno]
      have enp : ynp tp N (ysk tp N x.2) = ysk tp N x.2 + 1 := by unfold ynp; rw [if_neg hno]
      have fb : FQ F5 (am_up (am_up (am_up F5 297 24 (v1 - 48)) 297 23 1) 297 22 (F2 297 22)) := ((FQ.up (Or.inr (Or.inr rfl))).trans (FQ.up (Or.inr (Or.inl rfl)))).trans (FQ.up (Or.inl rfl))
      have no : ¬ ynk tp N (ysk tp N x.2) → Q (none) (Wd S L (am_up (am_up (am_up F5 297 24 (v1 - 48)) 297 23 1) 297 22 (F2 297 22)) G h) := fun q => by
        refine H _ ?_ (fun z => ?_) fb
        · rw [ey, pnum_f q]; exact c.up2 hb.2 e2 hq32
        · rw [ey, pnum_f q] at z; simp at z
      refine ⟨by omega, ?_⟩
      by_cases g1 : v1 - 48 < 1
      · rw [if_pos g1]
        exact no (fun q => by have := q.2; omega)
      rw [if_neg g1]
      by_cases g2 : 12 < v1 - 48
      · rw [if_pos g2]
        exact no (fun q => by have := q.2; omega)
      · rw [if_neg g2]
        have yes : ynk tp N (ysk tp N x.2) := ⟨⟨k1, k2, k3⟩, by omega, by omega⟩
        refine H _ ?_ (fun z => ?_) (FQ.up (Or.inr (Or.inr rfl)))
        · rw [ey, pnum_t yes, enp]; exact c.v24
        · rw [up_at, if_pos rfl, ev]; omega
    refine ⟨by omega, ?_⟩
    rw [if_pos e23]
    refine ⟨by omega, by omega, ?_⟩
    by_cases g : F5 297 7 ≤ F5 297 22
    · rw [if_pos g]
      exact one (fun q => by omega)
    rw [if_neg g]
    have g' : ysk tp N x.2 + 1 < N := by omega
    obtain ⟨t3, t4, t6⟩ := t5.2.2 _ g'
    have ei : (F5 297 22).toNat = ysk tp N x.2 + 1 := by omega
    rw [ei, t3]
    refine ⟨by omega, by omega, ?_⟩
    by_cases g1 : tp (ysk tp N x.2 + 1) < 48
    · rw [if_pos g1]
      exact one (fun q => by omega)
    rw [if_neg g1]
    by_cases g2 : 57 < tp (ysk tp N x.2 + 1)
    · rw [if_pos g2]
      exact one (fun q => by omega)
    rw [if_neg g2]
    have hyes : ysk tp N x.2 + 1 < N ∧ 48 ≤ tp (ysk tp N x.2 + 1) ∧ tp (ysk tp N x.2 + 1) ≤ 57 := by omega
    have ev : ynv tp N (ysk tp N x.2) = 10 * (tp (ysk tp N x.2) - 48) + tp (ysk tp N x.2 + 1) - 48 := by unfold ynv; rw [if_pos hyes]
    have enp : ynp tp N (ysk tp N x.2) = ysk tp N x.2 + 2 := by unfold ynp; rw [if_pos hyes]
    generalize hw : 10 * (v1 - 48) + tp (ysk tp N x.2 + 1) - 48 = w
    have ew : w = ynv tp N (ysk tp N x.2) := by omega
    have f3 : FQ F5 (am_up (am_up (am_up F5 297 24 (v1 - 48)) 297 24 w) 297 22 (F5 297 22 + 1)) := ((FQ.up (Or.inr (Or.inr rfl))).trans (FQ.up (Or.inr (Or.inr rfl)))).trans (FQ.up (Or.inl rfl))
    have fb : FQ F5 (am_up (am_up (am_up (am_up (am_up F5 297 24 (v1 - 48)) 297 24 w) 297 22 (F5 297 22 + 1)) 297 23 1) 297 22 (F2 297 22)) := (f3.trans (FQ.up (Or.inr (Or.inl rfl)))).trans (FQ.up (Or.inl rfl))
    have no : ¬ ynk tp N (ysk tp N x.2) → Q (none) (Wd S L (am_up (am_up (am_up (am_up (am_up F5 297 24 (v1 - 48)) 297 24 w) 297 22 (F5 297 22 + 1)) 297 23 1) 297 22 (F2 297 22)) G h) := fun q => by
      refine H _ ?_ (fun z => ?_) fb
      · rw [ey, pnum_f q]
        exact c.set fb hb.2 (by rw [up_at, if_pos rfl]; exact e2) (fun k => by simp at k) (fun _ => ⟨by rw [up_at, if_neg (by decide), up_at, if_pos rfl], hq32⟩)
      · rw [ey, pnum_f q] at z; simp at z
    refine ⟨by omega, ?_⟩
    by_cases g3 : w < 1
    · rw [if_pos g3]
      exact no (fun q => by have := q.2; omega)
    rw [if_neg g3]
    by_cases g4 : 12 < w
    · rw [if_pos g4]
      exact no (fun q => by have := q.2; omega)
    · rw [if_neg g4]
      have yes : ynk tp N (ysk tp N x.2) := ⟨⟨k1, k2, k3⟩, by omega, by omega⟩
      refine H _ ?_ (fun z => ?_) f3
      · rw [ey, pnum_t yes, enp]
        exact c.set f3 (by dsimp only; omega) (by rw [up_at, if_pos rfl, e22]; dsimp only; omega) (fun _ => by rw [up_at, if_neg (by decide), up_at, if_neg (by decide), up_at, if_neg (by decide)]; exact e23) (fun k => by simp at k)
      · rw [up_at, if_neg (by decide), up_at, if_pos rfl, ew]
  · have c := (s.1 e).2 k
    have nk : ¬ ynk tp N (ysk tp N x.2) := fun q => k q.1
    obtain ⟨b1, b2, b3⟩ := bad _ (by rw [ey, pnum_f nk]) c
    refine ⟨b1, ?_⟩
    rw [if_neg b2]
    exact b3
theorem K176s (hh : RfH h) {x : YR} (c : MS tp N F x) (H : ∀ F' : Nat → Nat → Int, MS tp N F' (yrb x (pnum tp N)) → ((yrb x (pnum tp N)).1 = true → F' 297 24 = ynv tp N (ysk tp N x.2)) → FQ F F' → Q none (Wd S L F' G h)) : C176_0 (Wd S L F G h) Q := by
  refine T176_0 hh (K172 hh c.2.1 c.1 c.2.2.1 (fun F1 t1 e1 k1 f1 => ⟨_, _, rfl, rfl, ?_⟩))
  obtain ⟨b1, b2, b3, b4⟩ := ych_bd t1 (ysk tp N x.2)
  have fq : FQ F F1 := ⟨fun k a _ _ => k1 k a, f1⟩
  have hk : yok tp N 48 57 (ysk tp N x.2) ↔ (48 ≤ ych tp N (ysk tp N x.2) ∧ ych tp N (ysk tp N x.2) ≤ 57) := by
    unfold yok
    by_cases q : ysk tp N x.2 < N
    · have := b3 q
      omega
    · have := b4 q
      omega
  refine ⟨by omega, ?_⟩
  by_cases c1 : ych tp N (ysk tp N x.2) < 48
  · rw [if_pos c1]
    refine K174s hh c t1 e1 (k1 23 (by decide)) (ok := yok tp N 48 57 (ysk tp N x.2)) (Or.inr ⟨rfl, fun k => by have := hk.1 k; omega⟩) (fun o => o.1) (fun F2 s e24 fq2 => ⟨_, rfl, rfl, ?_⟩)
    exact K176t hh e1 c.2.1 s (fun k => (b3 k.1).2) (by omega) (fun F' m1 m2 m3 => H F' m1 m2 (fq.trans (fq2.trans m3)))
  rw [if_neg c1]
  by_cases c2 : 57 < ych tp N (ysk tp N x.2)
  · rw [if_pos c2]
    refine K174s hh c t1 e1 (k1 23 (by decide)) (ok := yok tp N 48 57 (ysk tp N x.2)) (Or.inr ⟨rfl, fun k => by have := hk.1 k; omega⟩) (fun o => o.1) (fun F2 s e24 fq2 => ⟨_, rfl, rfl, ?_⟩)
    exact K176t hh e1 c.2.1 s (fun k => (b3 k.1).2) (by omega) (fun F' m1 m2 m3 => H F' m1 m2 (fq.trans (fq2.trans m3)))
  · rw [if_neg c2]
    refine K174s hh c t1 e1 (k1 23 (by decide)) (ok := yok tp N 48 57 (ysk tp N x.2)) (Or.inl ⟨rfl, hk.2 (by omega)⟩) (fun o => o.1) (fun F2 s e24 fq2 => ⟨_, rfl, rfl, ?_⟩)
    exact K176t hh e1 c.2.1 s (fun k => (b3 k.1).2) (by omega) (fun F' m1 m2 m3 => H F' m1 m2 (fq.trans (fq2.trans m3)))
end LINES
