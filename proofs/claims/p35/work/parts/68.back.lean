/-! mark, back: the law's mark of what is told, the image and the six steps back -/
def ym1 (r : Row) : Nat → Int
  | 0 => 5
  | k + 1 => 31 * ym1 r k + sCount r 0 (k : Int)
def ym2 (r : Row) : Nat → Int
  | 0 => ym1 r 10
  | k + 1 => 31 * ym2 r k + sTold r (k : Int) 0 + 7 * sTold r (k : Int) 1 + 61 * sTold r (k : Int) 2 + 997 * sTold r (k : Int) 3
def ym3 (r : Row) : Nat → Int
  | 0 => ym2 r 12
  | k + 1 => 31 * ym3 r k + sSounds r (k : Int) 0 + 13 * sSounds r (k : Int) 1 + 300 * sOff r (k : Int) 1
def ym4 (r : Row) : Nat → Int
  | 0 => ym3 r (yn r)
  | k + 1 => 31 * ym4 r k + sWord r (k : Int) 0 + 11 * sLetter r (k : Int) 0
def ymark (r : Row) : Int := ym4 r (ywn r)
def E5 (r r' : Row) : Prop := ∀ j, j ≠ 5 → r' j = r j
section E5S
variable {r r' : Row}
theorem E5.c_yn (e : E5 r r') : yn r' = yn r := by unfold yn; rw [e 0 (by decide)]
theorem E5.c_ywn (e : E5 r r') : ywn r' = ywn r := by unfold ywn; rw [e 1 (by decide)]
theorem E5.shp (e : E5 r r') (i : Nat) : vshp r' i = vshp r i := by unfold vshp; rw [e (46 + i) (by omega), e _ (by omega)]
theorem E5.tms (e : E5 r r') : (fun k => r' (58 + k)) = (fun k => r (58 + k)) := by funext k; exact e _ (by omega)
theorem E5.c_yM (e : E5 r r') (i : Nat) : yM r' i = yM r i := by unfold yM; rw [e 2 (by decide), e 3 (by decide), e.tms]
theorem E5.op (e : E5 r r') (i : Nat) : r' (6 + (vshp r' i).toNat) = r (6 + (vshp r i).toNat) := by rw [e.shp, e _ (by omega)]
theorem E5.c_fk (e : E5 r r') (n : Nat) : ∀ k, fk r' n k = fk r n k
  | 0 => by
    funext i
    show yM r' (i + 1) - yM r' i = yM r (i + 1) - yM r i
    rw [e.c_yM, e.c_yM]
  | k + 1 => by
    show ldF r' n (fk r' n k) k = ldF r n (fk r n k) k
    rw [E5.c_fk e n k]
    unfold ldF
    rw [e.op]
theorem E5.yfr (e : E5 r r') : yfr' r' = yfr' r := by unfold yfr'; rw [e.c_yn, e.c_fk]
theorem E5.c_ylo (e : E5 r r') : ylo r' = ylo r := by
  funext i
  unfold ylo ldX
  rw [e.c_yn, e.c_fk, e.op]
theorem E5.c_yzr (e : E5 r r') : yzr r' = yzr r := by
  funext i
  unfold yzr
  rw [e.c_yn, e.c_fk]
theorem E5.c_yat (e : E5 r r') (f : Nat) : ∀ n, yat r' n f = yat r n f
  | 0 => rfl
  | n + 1 => by
    unfold yat
    rw [e.yfr, E5.c_yat e f n]
theorem E5.c_ysh (e : E5 r r') : ysh r' = ysh r := by
  funext f
  unfold ysh ysA
  rw [e.c_yn, e.c_yat, e.shp]
theorem E5.cnt (e : E5 r r') (n w : Int) : sCount r' n w = sCount r n w := by
  unfold sCount
  rw [e 0 (by decide), e 1 (by decide), e 4 (by decide), e.c_yn, e.c_yM, e.c_ysh, e.c_ylo, e.c_yzr, e.tms]
theorem E5.told (e : E5 r r') (s w : Int) : sTold r' s w = sTold r s w := by
  unfold sTold
  rw [e (22 + s.toNat) (by omega), e (34 + s.toNat) (by omega), e (6 + (r (22 + s.toNat)).toNat) (by omega), e (14 + (r (22 + s.toNat)).toNat) (by omega)]
theorem E5.snd0 (e : E5 r r') (i : Int) : sSounds r' i 0 = sSounds r i 0 := by
  unfold sSounds
  rw [e 0 (by decide), if_pos rfl, if_pos rfl, e _ (by omega)]
theorem E5.snd1 (e : E5 r r') (i : Int) : sSounds r' i 1 = sSounds r i 1 := by
  unfold sSounds
  rw [e 0 (by decide)]
  by_cases c : 0 ≤ i ∧ i < r 0
  · rw [if_pos c, if_pos c, if_neg (by decide : ¬ (1 : Int) = 0), if_neg (by decide : ¬ (1 : Int) = 0), if_pos rfl, if_pos rfl, e _ (by omega)]
  · rw [if_neg c, if_neg c]
theorem E5.off (e : E5 r r') (i w : Int) : sOff r' i w = sOff r i w := by
  have d : ∀ k, sOffD r' k = sOffD r k := fun k => by unfold sOffD; rw [e 2 (by decide), e 3 (by decide), e.tms]
  unfold sOff
  rw [e 0 (by decide), e 2 (by decide), d]
theorem E5.wrd (e : E5 r r') (j : Int) : sWord r' j 0 = sWord r j 0 := by
  unfold sWord
  rw [e 1 (by decide), if_pos rfl, if_pos rfl, e _ (by omega)]
theorem E5.lt (e : E5 r r') (j k : Int) : sLetter r' j k = sLetter r j k := by
  unfold sLetter
  rw [e 1 (by decide), e (71 + 8 * j.toNat) (by omega), e (72 + 8 * j.toNat + k.toNat) (by omega)]
theorem E5.m1 (e : E5 r r') : ∀ k, ym1 r' k = ym1 r k
  | 0 => rfl
  | k + 1 => by unfold ym1; rw [E5.m1 e k, e.cnt]
theorem E5.m2 (e : E5 r r') : ∀ k, ym2 r' k = ym2 r k
  | 0 => e.m1 10
  | k + 1 => by unfold ym2; rw [E5.m2 e k, e.told, e.told, e.told, e.told]
theorem E5.m3 (e : E5 r r') : ∀ k, ym3 r' k = ym3 r k
  | 0 => e.m2 12
  | k + 1 => by unfold ym3; rw [E5.m3 e k, e.snd0, e.snd1, e.off]
theorem E5.m4 (e : E5 r r') : ∀ k, ym4 r' k = ym4 r k
  | 0 => by show ym3 r' (yn r') = ym3 r (yn r); rw [e.c_yn, e.m3]
  | k + 1 => by unfold ym4; rw [E5.m4 e k, e.wrd, e.lt]
theorem E5.mark (e : E5 r r') : ymark r' = ymark r := by unfold ymark; rw [e.c_ywn, e.m4]
end E5S
theorem E5_draw (r : Row) (a : Int) : E5 r (yu1 r 5 a) := fun j hj => by unfold yu1; rw [if_neg hj]
theorem dIt_add (r : Row) (n : Nat) (R : Nat → Row) (a : Nat) : ∀ b, dIt (dIt r n R a).1 (dIt r n R a).2.1 (dIt r n R a).2.2 b = dIt r n R (a + b)
  | 0 => rfl
  | b + 1 => by
    have ih := dIt_add r n R a b
    show (rDrift _, pushN _, pushR _ _ _) = (rDrift _, pushN _, pushR _ _ _)
    rw [ih]
    rfl
theorem dIt_c (r : Row) {n : Nat} (R : Nat → Row) (hn : n ≤ 6) : ∀ k, (dIt r n R k).2.1 = if 6 ≤ n + k then 6 else n + k
  | 0 => by show n = _; split <;> omega
  | k + 1 => by
    have ih := dIt_c r R hn k
    show pushN (dIt r n R k).2.1 = _
    rw [ih]
    unfold pushN
    repeat' split
    all_goals omega
theorem dIt_R (r : Row) {n : Nat} (R : Nat → Row) (hn : n ≤ 6) : ∀ k i, i + 1 ≤ k → i + 1 ≤ 6 → (dIt r n R k).2.2 ((if 6 ≤ n + k then 6 else n + k) - 1 - i) = (dIt r n R (k - 1 - i)).1
  | 0, i, h, _ => absurd h (by omega)
  | k + 1, i, h, h6 => by
    have c := dIt_c r R hn k
    show pushR (dIt r n R k).2.1 (dIt r n R k).2.2 (dIt r n R k).1 _ = _
    rw [c]
    unfold pushR
    by_cases i0 : i = 0
    · subst i0
      rw [show k + 1 - 1 - 0 = k by omega]
      by_cases q : 6 ≤ n + k
      · have z0 : (if 6 ≤ n + k then 6 else n + k) = 6 := if_pos q
        have z1 : (if 6 ≤ n + (k + 1) then 6 else n + (k + 1)) = 6 := if_pos (by omega)
        rw [z0, z1, if_pos rfl, if_neg (by omega)]
      · have z0 : (if 6 ≤ n + k then 6 else n + k) = n + k := if_neg q
        have z1 : (if 6 ≤ n + (k + 1) then 6 else n + (k + 1)) = n + k + 1 := by split <;> omega
        rw [z0, z1, if_neg (by omega), if_pos (by omega)]
    · have ih := dIt_R r R hn k (i - 1) (by omega) (by omega)
      rw [show k - 1 - (i - 1) = k + 1 - 1 - i by omega] at ih
      by_cases q : 6 ≤ n + k
      · have z0 : (if 6 ≤ n + k then 6 else n + k) = 6 := if_pos q
        have z1 : (if 6 ≤ n + (k + 1) then 6 else n + (k + 1)) = 6 := if_pos (by omega)
        rw [z0] at ih
        rw [z0, z1, if_pos rfl, if_pos (by omega), show 6 - 1 - i + 1 = 6 - 1 - (i - 1) by omega]
        exact ih
      · have z0 : (if 6 ≤ n + k then 6 else n + k) = n + k := if_neg q
        have z1 : (if 6 ≤ n + (k + 1) then 6 else n + (k + 1)) = n + k + 1 := by split <;> omega
        rw [z0] at ih
        rw [z0, z1, if_neg (by omega), if_neg (by omega), show n + k + 1 - 1 - i = n + k - 1 - (i - 1) by omega]
        exact ih
section BACKL
variable {S L : Nat} {F G : Nat → Nat → Int} {h : Nat → Nat → Option Nat} {Q : Option V2 → W2 → Prop} {r : Row} {n : Nat} {R : Nat → Row} {F0 : Nat → Nat → Int}
theorem l121_152 (K : ∀ F, Oy F h r n R → Ob F0 F → Q (some (vj (ymark r))) (Wd S L F G h)) : ∀ (m k : Nat) (F : Nat → Nat → Int), k + m = ywn r → Oy F h r n R → Ob F0 F → C121_152 (ym4 r k) (k : Int) (Wd S L F G h) Q
  | 0, k, F, e, o, b => by
    have v := o.v
    have hw := v.w
    have hk : (k : Int) = r 1 := by unfold ywn at e; omega
    refine T121_152 o.hh ?_
    refine k75 o (by decide) (fun F1 o1 b1 => ?_)
    have rc : sCount r (n : Int) 9 = r 1 := rfl
    rw [rc]
    refine ⟨by omega, by omega, ?_⟩
    rw [if_pos (by omega)]
    have z := K F1 o1 (b.tr b1)
    unfold ymark at z
    rw [show ywn r = k by omega] at z
    exact z
  | m + 1, k, F, e, o, b => by
    have v := o.v
    have hw := v.w
    have hk : (k : Int) < r 1 := by unfold ywn at e; omega
    refine T121_152 o.hh ?_
    refine k75 o (by decide) (fun F1 o1 b1 => ?_)
    have rc : sCount r (n : Int) 9 = r 1 := rfl
    rw [rc]
    refine ⟨by omega, by omega, ?_⟩
    rw [if_neg (by omega)]
    refine k82 o1 (by omega) (by decide) ⟨R32_sWord v _ _, ?_⟩
    refine k83 o1 (by omega) (by decide) ⟨R32_sLetter v _ _, ?_⟩
    exact l121_152 K m (k + 1) F1 (by omega) o1 (b.tr b1)
theorem l121_97 (K : ∀ F, Oy F h r n R → Ob F0 F → Q (some (vj (ymark r))) (Wd S L F G h)) : ∀ (m k : Nat) (F : Nat → Nat → Int), k + m = yn r → Oy F h r n R → Ob F0 F → C121_97 (ym3 r k) (k : Int) (Wd S L F G h) Q
  | 0, k, F, e, o, b => by
    have v := o.v
    have hn := v.n
    have hk : (k : Int) = r 0 := by unfold yn at e; omega
    refine T121_97 o.hh ?_
    refine k75 o (by decide) (fun F1 o1 b1 => ?_)
    have rc : sCount r (n : Int) 0 = r 0 := rfl
    rw [rc]
    refine ⟨by omega, by omega, ?_⟩
    rw [if_pos (by omega)]
    have z := l121_152 (S := S) (L := L) (G := G) K (ywn r) 0 F1 (by omega) o1 (b.tr b1)
    have e0 : ym4 r 0 = ym3 r k := by show ym3 r (yn r) = _; rw [show yn r = k by omega]
    rw [e0] at z
    exact z
  | m + 1, k, F, e, o, b => by
    have v := o.v
    have hn := v.n
    have hk : (k : Int) < r 0 := by unfold yn at e; omega
    refine T121_97 o.hh ?_
    refine k75 o (by decide) (fun F1 o1 b1 => ?_)
    have rc : sCount r (n : Int) 0 = r 0 := rfl
    rw [rc]
    refine ⟨by omega, by omega, ?_⟩
    rw [if_neg (by omega)]
    refine k73 o1 (by omega) (by decide) (fun F2 o2 b2 => ⟨R32_sSounds v _ _, ?_⟩)
    refine k73 o2 (by omega) (by decide) (fun F3 o3 b3 => ⟨R32_sSounds v _ _, ?_⟩)
    refine k80 o3 (by omega) (by decide) ⟨R32_sOff v _ _, ?_⟩
    exact l121_97 K m (k + 1) F3 (by omega) o3 (((b.tr b1).tr b2).tr b3)
theorem l121_33 (K : ∀ F, Oy F h r n R → Ob F0 F → Q (some (vj (ymark r))) (Wd S L F G h)) : ∀ (m k : Nat) (F : Nat → Nat → Int), k + m = 12 → Oy F h r n R → Ob F0 F → C121_33 (ym2 r k) (k : Int) (Wd S L F G h) Q
  | 0, k, F, e, o, b => by
    refine T121_33 o.hh ⟨by omega, ?_⟩
    rw [if_pos (by omega)]
    have z := l121_97 (S := S) (L := L) (G := G) K (yn r) 0 F (by omega) o b
    have e0 : ym3 r 0 = ym2 r k := by show ym2 r 12 = _; rw [show k = 12 by omega]
    rw [e0] at z
    exact z
  | m + 1, k, F, e, o, b => by
    have v := o.v
    refine T121_33 o.hh ⟨by omega, ?_⟩
    rw [if_neg (by omega)]
    refine k72 o (by omega) (by decide) ⟨R32_sTold v _ _, ?_⟩
    refine k72 o (by omega) (by decide) ⟨R32_sTold v _ _, ?_⟩
    refine k72 o (by omega) (by decide) ⟨R32_sTold v _ _, ?_⟩
    refine k72 o (by omega) (by decide) ⟨R32_sTold v _ _, ?_⟩
    exact l121_33 K m (k + 1) F (by omega) o b
theorem l121_6 (K : ∀ F, Oy F h r n R → Ob F0 F → Q (some (vj (ymark r))) (Wd S L F G h)) : ∀ (m k : Nat) (F : Nat → Nat → Int), k + m = 10 → Oy F h r n R → Ob F0 F → C121_6 (ym1 r k) (k : Int) (Wd S L F G h) Q
  | 0, k, F, e, o, b => by
    refine T121_6 o.hh ⟨by omega, ?_⟩
    rw [if_pos (by omega)]
    have z := l121_33 (S := S) (L := L) (G := G) K 12 0 F (by omega) o b
    have e0 : ym2 r 0 = ym1 r k := by show ym1 r 10 = _; rw [show k = 10 by omega]
    rw [e0] at z
    exact z
  | m + 1, k, F, e, o, b => by
    have v := o.v
    have hn := o.n6
    refine T121_6 o.hh ⟨by omega, ?_⟩
    rw [if_neg (by omega)]
    refine k75 o (by omega) (fun F1 o1 b1 => ⟨R32_sCount v (by omega) _, ?_⟩)
    have z := l121_6 K m (k + 1) F1 (by omega) o1 (b.tr b1)
    have e1 : ym1 r (k + 1) = 31 * ym1 r k + sCount r (n : Int) (k : Int) := by
      show 31 * ym1 r k + sCount r 0 (k : Int) = _
      have : sCount r 0 (k : Int) = sCount r (n : Int) (k : Int) := by
        unfold sCount
        rw [if_neg (by omega : ¬ (k : Int) = 10), if_neg (by omega : ¬ (k : Int) = 10)]
      rw [this]
    rw [e1] at z
    exact z
theorem k121 (o : Oy F h r n R) {P : Int → (Nat → Nat → Int) → Prop} (H : ∀ F', Oy F' h r n R → Ob F F' → P (ymark r) F') : C121_0 (Wd S L F G h) (fun v w1 => ∃ (x : Int) (F' : Nat → Nat → Int), v = some (vj x) ∧ w1 = (Wd S L F' G h) ∧ P x F') := by
  refine T121_0 o.hh ?_
  exact l121_6 (F0 := F) (fun F' o' b' => ⟨_, F', rfl, rfl, H F' o' b'⟩) 10 0 F (by decide) o Ob.rf
theorem l122_143 {a x2 : Int} {ra : Row} {R0 : Nat → Row} (va : Yvd ra) (h5 : ra 5 = a) (em : ymark ra = x2) (e2 : R 0 = (dIt ra n R0 2).1) (K : ∀ F h, RfH h → Q (some (vi 1)) (Wd S L F G h)) : ∀ (m : Nat) (x9 : Int) (F : Nat → Nat → Int) (r : Row), x9 + 1 = m → (m = 0 → r = R 0) → Oy F h r m R → Im F h ra n R0 → C122_143 a x2 x9 (Wd S L F G h) Q
  | 0, x9, F, r, e, er, o, im => by
    refine T122_143 o.hh ⟨by omega, ?_⟩
    rw [if_pos (by omega)]
    refine k121 o (fun F1 o1 b1 => ?_)
    refine k88n o1 ⟨by decide, rfl, ?_⟩
    refine k91 o1 (im.cg (fun p hp => b1 p (by omega)) rfl) (fun F2 o2 im2 f2 => ⟨by decide, rfl, ?_⟩)
    refine k87 o2 (by decide) (fun F3 h3 o3 f3 g3 => ?_)
    have n3 := o3.v.n
    refine ⟨by omega, by omega, ?_⟩
    refine k121 o3 (fun F4 o4 b4 => ⟨?_, ?_⟩)
    · rw [er rfl, e2]; rfl
    refine k91 o4 (im2.cg (fun p hp => by rw [b4 p (by omega), f3 p (by omega)]) (g3 166 (by decide))) (fun F5 o5 im5 f5 => ⟨by decide, rfl, ?_⟩)
    refine k121 o5 (fun F6 o6 b6 => ⟨em, ?_⟩)
    have d5 := va.dr
    exact k89 o6 (by decide) (fun F7 o7 f7 => ⟨by omega, by omega, h5, K F7 h3 o7.hh⟩)
  | m + 1, x9, F, r, e, er, o, im => by
    have hn := o.n6
    refine T122_143 o.hh ⟨by omega, ?_⟩
    rw [if_neg (by omega)]
    refine k88 o (fun F1 o1 f1 => ⟨by omega, by omega, ?_⟩)
    exact l122_143 va h5 em e2 K m (x9 + -1) F1 (R m) (by omega) (fun q => by rw [q]) o1 (im.cg (fun p hp => f1 p (by omega)) rfl)
theorem k122 (o : Oy F h r n R) {a : Int} (ha : 0 ≤ a ∧ a ≤ 2147483647) (r5 : r 5 = 1) {P : Int → (Nat → Nat → Int) → (Nat → Nat → Option Nat) → Prop} (H : ∀ F' h', P 1 F' h') : C122_0 a (Wd S L F G h) (fun v w1 => ∃ (z : Int) (F' : Nat → Nat → Int) (h' : Nat → Nat → Option Nat), v = some (vi z) ∧ w1 = (Wd S L F' G h') ∧ RfH h' ∧ P z F' h') := by
  have hn6 := o.n6
  refine T122_0 o.hh ?_
  refine k121 o (fun F1 o1 b1 => ?_)
  refine k75 o1 (by decide) (fun F2 o2 b2 => ?_)
  refine k89 o2 ha (fun F3 o3 f3 => ⟨by omega, r5, ?_⟩)
  have em : ymark (yu1 r 5 a) = ymark r := (E5_draw r a).mark
  have va := o3.v
  have h5 : yu1 r 5 a 5 = a := by unfold yu1; rw [if_pos rfl]
  refine k90 o3 (fun F4 o4 im4 f4 => ⟨by decide, rfl, ?_⟩)
  clear f4 o3 f3 b2 o2 b1 o1
  rw [← em]
  generalize yu1 r 5 a = ra at em va h5 o4 im4 ⊢
  clear em
  refine k87 o4 (by decide) (fun F5 h5' o5 f5 g5 => ?_)
  have o5 : Oy F5 h5' (dIt ra n R 8).1 6 (dIt ra n R 8).2.2 := by
    have z := dIt_c ra R hn6 8
    rw [if_pos (by omega)] at z
    have q : Oy F5 h5' (dIt ra n R 8).1 (dIt ra n R 8).2.1 (dIt ra n R 8).2.2 := o5
    rw [z] at q
    exact q
  have im5 := im4.cg (F' := F5) (h' := h5') (fun p hp => f5 p (by omega)) (g5 166 (by decide))
  clear im4 f5 g5
  have n5 := o5.v.n
  refine k121 o5 (fun F6 o6 b6 => ?_)
  refine k75 o6 (by decide) (fun F7 o7 b7 => ?_)
  have r8 : R32 ((dIt ra n R 8).1 0) := ⟨by omega, by omega⟩
  have c6 : R32 ((6 : Nat) : Int) := by decide
  have c0 : R32 ((n : Nat) : Int) := by exact ⟨by omega, by omega⟩
  refine ⟨r8, r8, rfl, ?_⟩
  refine k75 o7 (by decide) (fun F8 o8 b8 => ⟨c6, rfl, ?_⟩)
  refine k91 o8 (im5.cg (fun p hp => by rw [b8 p (by omega), b7 p (by omega), b6 p (by omega)]) rfl) (fun F9 o9 im9 f9 => ⟨by decide, rfl, ?_⟩)
  refine k121 o9 (fun F10 o10 b10 => ⟨rfl, ?_⟩)
  refine k75 o10 (by decide) (fun F11 o11 b11 => ⟨c0, c0, rfl, ?_⟩)
  refine k87 o11 (by decide) (fun F12 h12 o12 f12 g12 => ?_)
  have n12 := o12.v.n
  refine ⟨by omega, by omega, ?_⟩
  have im12 := im9.cg (F' := F12) (h' := h12) (fun p hp => by rw [f12 p (by omega), b11 p (by omega), b10 p (by omega)]) (g12 166 (by decide))
  have e8 : ∀ k, k = 5 → dIt (dIt ra n R 3).1 (dIt ra n R 3).2.1 (dIt ra n R 3).2.2 k = dIt ra n R 8 := fun k hk => by rw [hk, dIt_add]
  refine k87 o12 (by decide) (fun F13 h13 o13 f13 g13 => ?_)
  have o13 : Oy F13 h13 (dIt ra n R 8).1 6 (dIt ra n R 8).2.2 := by
    have z := dIt_c ra R hn6 8
    rw [if_pos (by omega)] at z
    have q : Oy F13 h13 (dIt (dIt ra n R 3).1 (dIt ra n R 3).2.1 (dIt ra n R 3).2.2 5).1 (dIt (dIt ra n R 3).1 (dIt ra n R 3).2.1 (dIt ra n R 3).2.2 5).2.1 (dIt (dIt ra n R 3).1 (dIt ra n R 3).2.1 (dIt ra n R 3).2.2 5).2.2 := o13
    rw [e8 5 rfl, z] at q
    exact q
  have ex : (dIt (dIt ra n R (3 : Int).toNat).1 (dIt ra n R (3 : Int).toNat).2.1 (dIt ra n R (3 : Int).toNat).2.2 (5 : Int).toNat).1 0 = (dIt ra n R 8).1 0 := by
    show (dIt (dIt ra n R 3).1 (dIt ra n R 3).2.1 (dIt ra n R 3).2.2 5).1 0 = _
    rw [e8 5 rfl]
  rw [ex]
  have n13 := o13.v.n
  refine ⟨by omega, rfl, ?_⟩
  refine k121 o13 (fun F14 o14 b14 => ⟨rfl, ?_⟩)
  have e2 : (dIt ra n R 8).2.2 0 = (dIt ra n R 2).1 := by
    have z := dIt_R ra R hn6 8 5 (by decide) (by decide)
    rw [if_pos (by omega)] at z
    exact z
  exact l122_143 va h5 rfl e2 (fun F' h' hh => ⟨_, F', h', rfl, rfl, hh, H F' h'⟩) 6 5 F14 _ (by decide) (fun q => absurd q (by decide)) o14 (im12.cg (fun p hp => by rw [b14 p (by omega), f13 p (by omega)]) (g13 166 (by decide)))
end BACKL
