/-! shown: rows of shapes that words look like -/
def Sh (F : Nat → Nat → Int) (l : Int) : Prop := F 289 0 = 1 ∧ F 289 1 = l ∧ F 289 2 = 14
def Sg (G : Nat → Nat → Int) : Prop := ∀ k, k < 24 → R64 (G 290 k)
theorem sCut_s : ∀ l : Fin 4, ∀ x : Fin 9, sCut ((l.val : Nat) : Int) ((x.val : Nat) : Int) = ((x.val : Nat) : Int) := by decide +kernel
theorem sCut_8 {l x : Int} (hl : 0 ≤ l ∧ l ≤ 3) (hx : 0 ≤ x ∧ x ≤ 8) : sCut l x = x := by
  have h := sCut_s ⟨l.toNat, by omega⟩ ⟨x.toNat, by omega⟩
  dsimp only at h
  rw [show ((l.toNat : Nat) : Int) = l by omega, show ((x.toNat : Nat) : Int) = x by omega] at h
  exact h
theorem ylow_dec : ∀ k : Fin 8, ∀ s : Fin 256, (∀ i : Fin 8, i.val < k.val → s.val.testBit i.val = false) → (Int32.ofInt ((s.val : Nat) : Int) &&& Int32.ofInt (((Int32.ofInt 1 <<< (Int32.ofInt ((k.val : Nat) : Int) &&& 31)).toInt) - 1)).toInt = 0 := by decide +kernel
theorem ymask_dec : ∀ k : Fin 9, ((Int32.ofInt 1 <<< (Int32.ofInt ((k.val : Nat) : Int) &&& 31)).toInt) - 1 = ((2 ^ k.val - 1 : Nat) : Int) := by decide +kernel
theorem yfull_dec : ∀ k : Fin 9, ∀ s : Fin 256, s.val < 2 ^ k.val → (∀ i : Fin 8, i.val < k.val → s.val.testBit i.val = true) → s.val = 2 ^ k.val - 1 := by decide +kernel
theorem yorN {a b : Nat} (ha : a < 256) (hb : b < 256) : (Int32.ofInt (a : Int) ||| Int32.ofInt (b : Int)).toInt = ((a ||| b : Nat) : Int) := by
  have e : ∀ c : Nat, (Int32.ofInt (c : Int)).toBitVec = BitVec.ofNat 32 c := fun c => by rw [Int32.toBitVec_ofInt, BitVec.ofInt_natCast]
  have h : (Int32.ofInt (a : Int) ||| Int32.ofInt (b : Int)).toInt = ((Int32.ofInt (a : Int) ||| Int32.ofInt (b : Int)).toBitVec).toInt := rfl
  have ho : a ||| b < 2 ^ 8 := Nat.or_lt_two_pow (n := 8) ha hb
  have ht : (BitVec.ofNat 32 a ||| BitVec.ofNat 32 b).toNat = a ||| b := by
    rw [BitVec.toNat_or, BitVec.toNat_ofNat, BitVec.toNat_ofNat, Nat.mod_eq_of_lt (by omega), Nat.mod_eq_of_lt (by omega)]
  rw [h, Int32.toBitVec_or, e, e, BitVec.toInt_eq_toNat_of_lt (by omega), ht]
section SHOWN
variable {S L : Nat} {F G : Nat → Nat → Int} {h : Nat → Nat → Option Nat} {Q : Option V2 → W2 → Prop} {r : Row} {n : Nat} {R : Nat → Row} {l : Int}
theorem ysp0 : YSP (289 + 2 * (0 : Int).toNat) := ⟨0, by decide, rfl⟩
theorem Sh.ob {F' : Nat → Nat → Int} (s : Sh F l) (b : Ob F F') : Sh F' l := by
  have e := b 289 (by decide)
  unfold Sh
  rw [e]
  exact s
theorem k94 (o : Oy F h r n R) (hl : 0 ≤ l ∧ l ≤ 3) {P : Int → (Nat → Nat → Int) → (Nat → Nat → Int) → Prop} (H : ∀ F' G', Oy F' h r n R → Sh F' l → Sg G' → (∀ p, p ≠ 289 → F' p = F p) → P 14 F' G') : C94_0 0 l 14 (Wd S L F G h) (fun v w1 => ∃ (x : Int) (F' : Nat → Nat → Int) (G' : Nat → Nat → Int), v = some (vi x) ∧ w1 = (Wd S L F' G' h) ∧ P x F' G') := by
  refine K94 o.hh (by decide) (by omega) (by decide) (fun q => absurd ⟨by decide, by decide, hl.1, hl.2, by decide, by decide⟩ q) (fun _ G' g1 g2 => ?_)
  have e : sSheet 0 l 14 = 14 := by unfold sSheet; rw [if_pos (by omega), if_pos (by decide)]
  rw [e]
  show ∃ (x : Int) (F' : Nat → Nat → Int) (G'' : Nat → Nat → Int), some (vi 14) = some (vi x) ∧ (Wd S L (am_up (am_up (am_up F 289 0 1) 289 1 l) 289 2 14) G' h) = (Wd S L F' G'' h) ∧ P x F' G''
  have f : ∀ p, p ≠ 289 → am_up (am_up (am_up F 289 0 1) 289 1 l) 289 2 14 p = F p := fun p hp => by rw [up_out hp, up_out hp, up_out hp]
  refine ⟨_, _, _, rfl, rfl, H _ _ (o.cg (fun p hp => f p (by omega))) ⟨?_, ?_, ?_⟩ (fun k hk => ?_) f⟩
  · rw [up_at, if_neg (by decide), up_at, if_neg (by decide), up_at, if_pos rfl]
  · rw [up_at, if_neg (by decide), up_at, if_pos rfl]
  · rw [up_at, if_pos rfl]
  · have g : G' 290 k = 0 := g1 k hk
    rw [g]; decide
theorem k100 (hh : RfH h) (s : Sh F l) (hl : 0 ≤ l ∧ l ≤ 3) {P : Int → Prop} (H : P 0) : C100_0 0 l (Wd S L F G h) (fun v w1 => ∃ (x : Int), v = some (vi x) ∧ w1 = (Wd S L F G h) ∧ P x) := by
  have e0 : F (289 + 2 * (0 : Int).toNat) 0 = 1 := s.1
  have e1 : F (289 + 2 * (0 : Int).toNat) 1 = l := s.2.1
  refine T100_0 hh ⟨by decide, ?_⟩
  rw [if_neg (by decide), if_neg (by decide)]
  refine ⟨by omega, ?_⟩
  rw [if_neg (by omega), if_neg (by omega)]
  refine ⟨by decide, by rw [e0]; decide, ?_⟩
  rw [e0, e1, if_neg (by decide)]
  refine ⟨by omega, ?_⟩
  rw [if_pos rfl]
  exact ⟨_, rfl, rfl, H⟩
theorem k96 (hh : RfH h) (s : Sh F l) (hl : 0 ≤ l ∧ l ≤ 3) (sg : Sg G) {i v : Int} (hi : 0 ≤ i ∧ i < 14) (hv : 0 ≤ v ∧ v ≤ 8) {P : Int → (Nat → Nat → Int) → Prop} (H : ∀ G', Sg G' → (∀ x, G' 290 x = if x = i.toNat then v else G 290 x) → P 1 G') : C96_0 0 l i v (Wd S L F G h) (fun v w1 => ∃ (x : Int) (G' : Nat → Nat → Int), v = some (vi x) ∧ w1 = (Wd S L F G' h) ∧ P x G') := by
  have e1 : F (289 + 2 * (0 : Int).toNat) 1 = l := s.2.1
  have e2 : F (289 + 2 * (0 : Int).toNat) 2 = 14 := s.2.2
  refine T96_0 hh (k100 hh s hl ⟨by decide, ?_⟩)
  rw [if_pos (by decide)]
  refine ⟨by decide, K20 hh ysp0 (by rw [e2]; decide) (by omega) (by decide) ⟨_, rfl, rfl, ?_⟩⟩
  rw [e2, if_pos (by omega)]
  refine ⟨by decide, ?_⟩
  rw [if_neg (by decide)]
  refine K21 hh ysp0 (by rw [e1]; exact hl) (by omega) ⟨_, rfl, rfl, _, _, rfl, rfl, ?_⟩
  rw [e1, sCut_8 hl hv]
  have g : ∀ x, am_up G (289 + 2 * (0 : Int).toNat + 1) i.toNat v 290 x = if x = i.toNat then v else G 290 x := fun x => by
    show am_up G 290 i.toNat v 290 x = _
    rw [up_at]
  refine H _ (fun k hk => ?_) g
  rw [g]
  split
  · exact ⟨by omega, by omega⟩
  · exact sg k hk
theorem k93 (o : Oy F h r n R) (s : Sh F l) (hl : 0 ≤ l ∧ l ≤ 3) (sg : Sg G) {P : Int → (Nat → Nat → Int) → (Nat → Nat → Int) → Prop} (H : ∀ F' G', Oy F' h r n R → Ob F F' → Sg G' → P (r 0) F' G') : C93_0 0 l 1 (Wd S L F G h) (fun v w1 => ∃ (x : Int) (F' : Nat → Nat → Int) (G' : Nat → Nat → Int), v = some (vi x) ∧ w1 = (Wd S L F' G' h) ∧ P x F' G') := by
  have v := o.v
  have hn := v.n
  have hy := yn_le v
  have e1 : F 289 1 = l := s.2.1
  have e2 : F (289 + 2 * (0 : Int).toNat) 2 = 14 := s.2.2
  refine T93_0 o.hh (k100 o.hh s hl ⟨by decide, ?_⟩)
  rw [if_pos (by decide), o.t.n1]
  refine ⟨by decide, K20 o.hh ysp0 (by rw [e2]; decide) (by decide) (by omega) ⟨_, rfl, rfl, ?_⟩⟩
  rw [e2, if_pos (by omega)]
  refine ⟨by decide, ?_⟩
  rw [if_neg (by decide)]
  refine K1 o.hh o.t v (fun F1 cc f1 => ⟨_, rfl, rfl, ?_⟩)
  have t1 : Ytk F1 1 r := o.t.cong (fun x h1 h2 => f1 x (by omega))
  have hyn : ((yn r : Nat) : Int) = r 0 := by unfold yn; omega
  have key := L93 (F := F1) (G := G) (S := S) (L := L) (Q := fun v w1 => ∃ (x : Int) (F' : Nat → Nat → Int) (G' : Nat → Nat → Int), v = some (vi x) ∧ w1 = (Wd S L F' G' h) ∧ P x F' G') o.hh (n := yn r) (s := 0) (i := 1) hy (by decide) (by omega) (l := l) hl (by rw [t1.n1]; omega) (by rw [f1 _ (by omega)]; exact e1) (f := yfr' r) (fun k hk => (cc.1 k hk).1) (fun k hk => by have := yfr_bd' v hk; omega)
    (fun G' g1 g2 => by
      rw [hyn]
      refine ⟨_, _, _, rfl, rfl, H F1 G' (o.ob (Ob.of f1)) (Ob.of f1) (fun k hk => ?_)⟩
      have g : G' 290 k = if 1 ≤ k ∧ k < 1 + yn r then sCut l (yfr' r (k - 1)) else G 290 k := g1 k
      rw [g]
      split
      · refine R64_sCut ?_
        have := yfr_bd' v (i := k - 1) (by omega)
        exact ⟨by omega, by omega⟩
      · exact sg k hk) (yn r) 0 G (by omega) (fun x => by rw [if_neg (by omega)]) (fun p hp => rfl)
  exact key
theorem k93x (o : Oy F h r n R) (s : Sh F l) (hl : 0 ≤ l ∧ l ≤ 3) {P : Int → (Nat → Nat → Int) → (Nat → Nat → Int) → Prop} (H : P (-13) F G) : C93_0 0 l (15 - r 0) (Wd S L F G h) (fun v w1 => ∃ (x : Int) (F' : Nat → Nat → Int) (G' : Nat → Nat → Int), v = some (vi x) ∧ w1 = (Wd S L F' G' h) ∧ P x F' G') := by
  have v := o.v
  have hn := v.n
  have e2 : F (289 + 2 * (0 : Int).toNat) 2 = 14 := s.2.2
  refine T93_0 o.hh (k100 o.hh s hl ⟨by decide, ?_⟩)
  rw [if_pos (by decide), o.t.n1]
  refine ⟨by decide, K20 o.hh ysp0 (by rw [e2]; decide) (by omega) (by omega) ⟨_, rfl, rfl, ?_⟩⟩
  rw [e2, if_neg (by omega)]
  refine ⟨by decide, ?_⟩
  rw [if_pos rfl]
  exact ⟨_, _, _, rfl, rfl, H⟩
theorem k92 (o : Oy F h r n R) (s : Sh F l) (hl : 0 ≤ l ∧ l ≤ 3) (sg : Sg G) {nn : Nat} (hn : 1 ≤ nn ∧ nn ≤ 6) {f : Nat → Int} (ef : ∀ k, k < nn → G 290 k = f k) {P : Int → Prop} (Hb : (∃ k, k < nn ∧ ¬ (0 ≤ f k ∧ f k < 8)) → P (-2)) (H : (∀ k, k < nn → 0 ≤ f k ∧ f k < 8) → P ((yset (yhas r (ylk f nn)) (ywn r) : Nat) : Int)) : C92_0 0 l 0 (nn : Int) (Wd S L F G h) (fun v w1 => ∃ (x : Int), v = some (vi x) ∧ w1 = (Wd S L F G h) ∧ P x) := by
  have v := o.v
  have e2 : F (289 + 2 * (0 : Int).toNat) 2 = 14 := s.2.2
  refine T92_0 o.hh ⟨by omega, ?_⟩
  rw [if_neg (by omega), if_neg (by omega)]
  refine k100 o.hh s hl ⟨by decide, ?_⟩
  rw [if_pos (by decide)]
  refine ⟨by decide, K20 o.hh ysp0 (by rw [e2]; decide) (by decide) (by omega) ⟨_, rfl, rfl, ?_⟩⟩
  rw [e2, if_pos (by omega)]
  refine ⟨by decide, ?_⟩
  rw [if_neg (by decide)]
  refine T22_0 o.hh ysp0 ?_
  have key := L22 (F := F) (G := G) (S := S) (L := L) (Q := fun v w1 => ∃ (v11 : Int), v = some (vi v11) ∧ w1 = (Wd S L F G h) ∧ (R32 v11 ∧ (if 0 ≤ v11 then C42_0 v11 (Wd S L F G h) (fun v w1 => ∃ (v14 : Int), v = some (vi v14) ∧ w1 = (Wd S L F G h) ∧ (∃ (x : Int), some (vi v14) = some (vi x) ∧ (Wd S L F G h) = (Wd S L F G h) ∧ P x)) else (∃ (x : Int), some (vi (-2)) = some (vi x) ∧ (Wd S L F G h) = (Wd S L F G h) ∧ P x)))) o.hh ysp0 (a := 0) (n := nn) hn.2 (by omega) (f := f) (fun k hk => by rw [Nat.zero_add]; exact ef k hk) (fun k hk => by rw [← ef k hk]; exact sg k (by omega))
    (fun hb => ⟨_, rfl, rfl, by decide, by rw [if_neg (by decide)]; exact ⟨_, rfl, rfl, Hb hb⟩⟩)
    (fun hg => by
      have hdg : Dg (ylk f nn) := ylk_dg hg
      have hln := ylk_len f nn
      have hb8 := e8_b hdg (by omega)
      refine ⟨_, rfl, rfl, by omega, ?_⟩
      rw [if_pos (by omega)]
      exact K42 o.hh o.t v hdg (by omega) ⟨_, rfl, rfl, _, rfl, rfl, H hg⟩) nn 0 (by omega) (fun i hi => absurd hi (Nat.not_lt_zero i))
  exact key
theorem k92a (hh : RfH h) {P : Int → Prop} (H : P (-1)) : C92_0 0 l 0 7 (Wd S L F G h) (fun v w1 => ∃ (x : Int), v = some (vi x) ∧ w1 = (Wd S L F G h) ∧ P x) := by
  refine T92_0 hh ⟨by decide, ?_⟩
  rw [if_neg (by decide), if_pos (by decide)]
  exact ⟨_, rfl, rfl, H⟩
theorem k92b (hh : RfH h) (s : Sh F l) (hl : 0 ≤ l ∧ l ≤ 3) {P : Int → Prop} (H : P (-13)) : C92_0 0 l 9 6 (Wd S L F G h) (fun v w1 => ∃ (x : Int), v = some (vi x) ∧ w1 = (Wd S L F G h) ∧ P x) := by
  have e2 : F (289 + 2 * (0 : Int).toNat) 2 = 14 := s.2.2
  refine T92_0 hh ⟨by decide, ?_⟩
  rw [if_neg (by decide), if_neg (by decide)]
  refine k100 hh s hl ⟨by decide, ?_⟩
  rw [if_pos (by decide)]
  refine ⟨by decide, K20 hh ysp0 (by rw [e2]; decide) (by decide) (by decide) ⟨_, rfl, rfl, ?_⟩⟩
  rw [e2, if_neg (by decide)]
  refine ⟨by decide, ?_⟩
  rw [if_pos rfl]
  exact ⟨_, rfl, rfl, H⟩
theorem k95 (o : Oy F h r n R) (s : Sh F l) {P : Int → (Nat → Nat → Int) → Prop} (H : ∀ F', Oy F' h r n R → (∀ p, p ≠ 289 → F' p = F p) → P 14 F') : C95_0 0 (Wd S L F G h) (fun v w1 => ∃ (x : Int) (F' : Nat → Nat → Int), v = some (vi x) ∧ w1 = (Wd S L F' G h) ∧ P x F') := by
  have e0 : F (289 + 2 * (0 : Int).toNat) 0 = 1 := s.1
  refine T95_0 o.hh ⟨by decide, ?_⟩
  rw [if_neg (by decide), if_neg (by decide)]
  refine ⟨by decide, by rw [e0]; decide, ?_⟩
  rw [e0, if_neg (by decide)]
  have e2 : am_up F (289 + 2 * (0 : Int).toNat) 0 0 (289 + 2 * (0 : Int).toNat) 2 = 14 := by
    rw [up_at, if_neg (by decide)]; exact s.2.2
  rw [e2]
  have f : ∀ p, p ≠ 289 → am_up F (289 + 2 * (0 : Int).toNat) 0 0 p = F p := fun p hp => up_out hp
  exact ⟨_, _, rfl, rfl, H _ (o.cg (fun p hp => f p (by omega))) f⟩
/-- the letters of a word put into the row, its look sought -/
theorem l120_92 (o : Oy F h r n R) (s : Sh F l) (hl : 0 ≤ l ∧ l ≤ 3) {x3 : Int} {j U : Nat} (hj : j < ywn r) (hU : U < 2 ^ ywn r)
    (K : ∀ (G' : Nat → Nat → Int) (V : Nat), Sg G' → V < 2 ^ ywn r → (∀ k, U.testBit k = true → V.testBit k = true) → V.testBit j = true → C120_73 l x3 (V : Int) ((j : Int) + 1) (Wd S L F G' h) Q) : ∀ (m k : Nat) (G : Nat → Nat → Int), (k : Int) + m = r (71 + 8 * j) → Sg G → (∀ i, i < k → G 290 i = r (22 + (r (72 + 8 * j + i)).toNat)) → C120_92 l x3 (U : Int) (j : Int) (k : Int) (Wd S L F G h) Q
  | 0, k, G, e, sg, hg => by
    have v := o.v
    have hw8 := ywn_le v
    have hz := v.sz j (by omega)
    have hp := v.wp j (by unfold ywn at hj; omega)
    have rW : ∀ i w, R32 (sWord r i w) := fun i w => R32_sWord v i w
    obtain ⟨a1, a2, a3⟩ := wle_ok r j
    have hset := wsn_256 v j
    have hs2 : wsn r j < 2 ^ ywn r := yset_lt _ _
    have p8 : 2 ^ ywn r ≤ 2 ^ 8 := Nat.pow_le_pow_right (by decide) hw8
    have q1 : (wsn r j).testBit j = true := by unfold wsn; rw [wset hj]
    have q2 : ∀ i : Fin 8, i.val < wle r j → (wsn r j).testBit i.val = false := fun i hi => by
      cases hb : (wsn r j).testBit i.val
      · rfl
      · unfold wsn at hb; rw [wset (by omega)] at hb; exact absurd hb (a3 _ hi)
    have ek : (k : Int) = r (71 + 8 * j) := by omega
    refine T120_92 o.hh ?_
    refine k82 o (by omega) (by decide) ?_
    rw [sW1 hj]
    refine ⟨by omega, by omega, ?_⟩
    rw [if_pos (by omega)]
    refine k82 o (by omega) (by decide) ?_
    rw [sW1 hj, ← ek]
    have key := k92 (S := S) (L := L) (G := G) o s hl sg (nn := k) (by omega) (f := fun i => r (22 + (r (72 + 8 * j + i)).toNat)) hg (P := fun v6 => (R32 ((Int32.ofInt ((Int32.ofInt v6 >>> (Int32.ofInt (j : Int) &&& 31)).toInt) &&& Int32.ofInt 1).toInt) ∧
     ((Int32.ofInt ((Int32.ofInt v6 >>> (Int32.ofInt (j : Int) &&& 31)).toInt) &&& Int32.ofInt 1).toInt) = 1 ∧
     C113_0 v6 (Wd S L F G h) (fun v w1 => ∃ (v9 : Int), v = some (vi v9) ∧ w1 = (Wd S L F G h) ∧
      C82_0 (j : Int) 3 (Wd S L F G h) (fun v w1 => ∃ (v10 : Int), v = some (vi v10) ∧ w1 = (Wd S L F G h) ∧
       (R32 v9 ∧
       R32 v10 ∧
       v9 = v10 ∧
       C82_0 (j : Int) 4 (Wd S L F G h) (fun v w1 => ∃ (v14 : Int), v = some (vi v14) ∧ w1 = (Wd S L F G h) ∧
        (R32 ((Int32.ofInt v6 &&& Int32.ofInt (((Int32.ofInt 1 <<< (Int32.ofInt v14 &&& 31)).toInt) - 1)).toInt) ∧
        ((Int32.ofInt v6 &&& Int32.ofInt (((Int32.ofInt 1 <<< (Int32.ofInt v14 &&& 31)).toInt) - 1)).toInt) = 0 ∧
        C120_73 l x3 ((Int32.ofInt (U : Int) ||| Int32.ofInt v6).toInt) ((j : Int) + 1) (Wd S L F G h) Q)))))))
      (fun hb => by
        obtain ⟨i, i1, i2⟩ := hb
        have b1 := v.lt j (by omega) i (by omega)
        exact absurd (v.sh (r (72 + 8 * j + i)).toNat (by omega)) i2)
      (fun _ => by
        have ew : ylk (fun i => r (22 + (r (72 + 8 * j + i)).toNat)) k = wlk r j := by
          have : k = (r (71 + 8 * j)).toNat := by omega
          rw [this]; rfl
        rw [ew]
        show (R32 ((Int32.ofInt ((Int32.ofInt ((wsn r j : Nat) : Int) >>> (Int32.ofInt (j : Int) &&& 31)).toInt) &&& Int32.ofInt 1).toInt) ∧ _)
        have hbt := (ybt (k := j) (s := wsn r j) (by omega) hset).1
        rw [q1, if_pos rfl] at hbt
        refine ⟨r32_toInt _, hbt, ?_⟩
        refine k113 o.hh hset ?_
        refine k82 o (by omega) (by decide) ?_
        have h3 := sW3 (r := r) hj
        refine ⟨by rw [← h3]; exact rW _ _, rW _ _, h3.symm, ?_⟩
        refine k82 o (by omega) (by decide) ?_
        rw [sW4 hj]
        have hlow := ylow_dec ⟨wle r j, by omega⟩ ⟨wsn r j, hset⟩ q2
        refine ⟨r32_toInt _, hlow, ?_⟩
        have hws : yset (yhas r (wlk r j)) (ywn r) = wsn r j := rfl
        rw [hws, yorN (by omega) hset]
        refine K G (U ||| wsn r j) sg (Nat.or_lt_two_pow hU hs2) (fun i hi => by rw [Nat.testBit_or, hi]; rfl) (by rw [Nat.testBit_or, q1, Bool.or_true]))
    exact key
  | m + 1, k, G, e, sg, hg => by
    have v := o.v
    have hw := v.w
    have hw8 := ywn_le v
    have hz := v.sz j (by omega)
    have b1 := v.lt j (by omega) k (by omega)
    have b2 := v.sh (r (72 + 8 * j + k)).toNat (by omega)
    have e1 : sLetter r (j : Int) (k : Int) = r (72 + 8 * j + k) := by
      unfold sLetter; rw [if_pos (by unfold ywn at hj; omega), if_pos (by show (k : Int) < r (71 + 8 * j); omega)]; rfl
    have e2 : sTold r (r (72 + 8 * j + k)) 0 = r (22 + (r (72 + 8 * j + k)).toNat) := by
      unfold sTold; rw [if_pos (by omega), if_pos rfl]
    refine T120_92 o.hh ?_
    refine k82 o (by omega) (by decide) ?_
    rw [sW1 hj]
    refine ⟨by omega, by omega, ?_⟩
    rw [if_neg (by omega)]
    refine k83 o (by omega) (by omega) ?_
    rw [e1]
    refine k72 o (by omega) (by decide) ?_
    rw [e2]
    refine ⟨by omega, ?_⟩
    refine k96 o.hh s hl sg (by omega) (by omega) (fun G' sg' g' => ⟨by decide, rfl, ?_⟩)
    rw [show (k : Int) + 1 = ((k + 1 : Nat) : Int) by omega]
    refine l120_92 o s hl hj hU K m (k + 1) G' (by omega) sg' (fun i hi => ?_)
    rw [g' i]
    by_cases q : i = k
    · rw [if_pos (by omega), q]
    · rw [if_neg (by omega)]
      exact hg i (by omega)
theorem l120_73 (hl : 0 ≤ l ∧ l ≤ 3) {F0 : Nat → Nat → Int} {x3 : Int} (h3 : 1 ≤ x3 ∧ x3 ≤ 6) (K : ∀ F G, Oy F h r n R → (∀ p, p ≠ 289 → p < 275 ∨ 284 ≤ p → F p = F0 p) → Q (some (vi 1)) (Wd S L F G h)) : ∀ (m j U : Nat) (F G : Nat → Nat → Int), j + m = ywn r → Oy F h r n R → Sh F l → Sg G → (∀ p, p ≠ 289 → p < 275 ∨ 284 ≤ p → F p = F0 p) → U < 2 ^ ywn r → (∀ k, k < j → U.testBit k = true) → C120_73 l x3 (U : Int) (j : Int) (Wd S L F G h) Q
  | 0, j, U, F, G, e, o, s, sg, f, hU, hb => by
    have v := o.v
    have hw := v.w
    have hw8 := ywn_le v
    have hj : j = ywn r := by omega
    subst hj
    have h1 : r 1 = (ywn r : Int) := by unfold ywn; omega
    have rc : sCount r (n : Int) 9 = r 1 := rfl
    have p8 : 2 ^ ywn r ≤ 2 ^ 8 := Nat.pow_le_pow_right (by decide) hw8
    refine T120_73 o.hh ?_
    refine k75 o (by decide) (fun F1 o b1 => ?_)
    rw [rc, h1]
    refine ⟨by omega, by omega, ?_⟩
    rw [if_pos (Int.le_refl _)]
    refine k75 o (by decide) (fun F2 o b2 => ?_)
    rw [rc, h1]
    have s2 := (s.ob b1).ob b2
    have hm := ymask_dec ⟨ywn r, by omega⟩
    dsimp only at hm
    have hf := yfull_dec ⟨ywn r, by omega⟩ ⟨U, by omega⟩ hU (fun i hi => hb i.val hi)
    dsimp only at hf
    have hm2 : (((Int32.ofInt 1 <<< (Int32.ofInt ((ywn r : Nat) : Int) &&& 31)).toInt) - 1) = (U : Int) := by rw [hm, hf]
    rw [hm2]
    refine ⟨by omega, by omega, rfl, ?_⟩
    refine k96 o.hh s2 hl sg (by decide) (by decide) (fun G' sg' g' => ⟨by decide, rfl, ?_⟩)
    obtain ⟨y, rfl⟩ : ∃ y : Nat, x3 = (y : Int) := ⟨x3.toNat, by omega⟩
    refine k92 o s2 hl sg' (nn := y) (by omega) (f := fun k => G' 290 k) (fun _ _ => rfl) (fun _ => ?_) (fun hg => ?_)
    · refine ⟨by decide, rfl, ?_⟩
      refine k92a o.hh ⟨by decide, rfl, ?_⟩
      refine k92b o.hh s2 hl ⟨by decide, rfl, ?_⟩
      refine k95 o s2 (fun F3 o f3 => ⟨by decide, rfl, ?_⟩)
      exact K F3 G' o (fun p q1 q2 => by rw [f3 p q1, b2 p q2, b1 p q2, f p q1 q2])
    · exfalso
      have g0 := g' 0
      rw [if_pos (show (0 : Nat) = (0 : Int).toNat from rfl)] at g0
      have := hg 0 (by omega)
      omega
  | m + 1, j, U, F, G, e, o, s, sg, f, hU, hb => by
    have v := o.v
    have hw := v.w
    have hw8 := ywn_le v
    have hj : j < ywn r := by omega
    have h1 : r 1 = (ywn r : Int) := by unfold ywn; omega
    have hz := v.sz j (by omega)
    have rc : sCount r (n : Int) 9 = r 1 := rfl
    refine T120_73 o.hh ?_
    refine k75 o (by decide) (fun F1 o b1 => ?_)
    rw [rc, h1]
    refine ⟨by omega, by omega, ?_⟩
    rw [if_neg (by omega)]
    refine l120_92 (U := U) o (s.ob b1) hl hj hU (fun G' V sg' hV h1 h2 => ?_) (r (71 + 8 * j)).toNat 0 G (by omega) sg (fun i hi => absurd hi (Nat.not_lt_zero i))
    rw [show (j : Int) + 1 = ((j + 1 : Nat) : Int) by omega]
    refine l120_73 hl h3 K m (j + 1) V F1 G' (by omega) o (s.ob b1) sg' (fun p q1 q2 => by rw [b1 p q2, f p q1 q2]) hV (fun k hk => ?_)
    by_cases q : k = j
    · rw [q]; exact h2
    · exact h1 k (hb k (by omega))
theorem k120 (o : Oy F h r n R) {a : Int} (ha : 0 ≤ a ∧ a ≤ 2147483647) {P : Int → (Nat → Nat → Int) → (Nat → Nat → Int) → Prop} (H : ∀ F' G', Oy F' h r n R → (∀ p, p ≠ 289 → p < 275 ∨ 284 ≤ p → F' p = F p) → P 1 F' G') : C120_0 a (Wd S L F G h) (fun v w1 => ∃ (x : Int) (F' : Nat → Nat → Int) (G' : Nat → Nat → Int), v = some (vi x) ∧ w1 = (Wd S L F' G' h) ∧ P x F' G') := by
  have v := o.v
  have hn := v.n
  have rc : sCount r (n : Int) 0 = r 0 := rfl
  have hl : 0 ≤ a % 4 ∧ a % 4 ≤ 3 := by omega
  refine T120_0 o.hh ⟨ha, by omega, ?_⟩
  refine k94 o hl (fun F1 G1 o s sg f1 => ⟨by decide, rfl, ?_⟩)
  refine k93 o s hl sg (fun F2 G2 o b2 sg2 => ?_)
  refine k75 o (by decide) (fun F3 o b3 => ?_)
  rw [rc]
  refine ⟨by omega, by omega, rfl, ?_⟩
  refine k75 o (by decide) (fun F4 o b4 => ?_)
  rw [rc]
  have s4 := ((s.ob b2).ob b3).ob b4
  refine k93x o s4 hl ⟨by decide, rfl, ?_⟩
  exact l120_73 (F0 := F) hl (by omega) (fun F' G' o' f' => ⟨_, F', G', rfl, rfl, H F' G' o' f'⟩) (ywn r) 0 0 F4 G2 (by omega) o s4 sg2 (fun p q1 q2 => by rw [b4 p q2, b3 p q2, b2 p q2, f1 p q1]) (Nat.two_pow_pos _) (fun k hk => absurd hk (Nat.not_lt_zero k))
end SHOWN
