/-! the class as the law sees it: what each call answers -/
def Oy (F : Nat → Nat → Int) (h : Nat → Nat → Option Nat) (r : Row) (n : Nat) (R : Nat → Row) : Prop := RfH h ∧ Yc F h r n R ∧ (∃ q, Ysth h 165 q) ∧ (∀ k, R32 (F 9999 k))
def Ob (F F' : Nat → Nat → Int) : Prop := ∀ p, p < 275 ∨ 284 ≤ p → F' p = F p
def wfs (e : Nat → List Int) (c : List Int) : Nat → Nat → Nat
  | 0, k => k
  | m + 1, k => if e k = c then k else wfs e c m (k + 1)
theorem wfs_ok {e : Nat → List Int} {c : List Int} : ∀ {m k : Nat}, e (k + m) = c → k ≤ wfs e c m k ∧ wfs e c m k ≤ k + m ∧ e (wfs e c m k) = c ∧ ∀ i, k ≤ i → i < wfs e c m k → e i ≠ c
  | 0, k, h => ⟨Nat.le_refl _, Nat.le_refl _, h, fun i h1 h2 => absurd h2 (Nat.not_lt.mpr h1)⟩
  | m + 1, k, h => by
    have e1 : wfs e c (m + 1) k = if e k = c then k else wfs e c m (k + 1) := rfl
    rw [e1]
    by_cases q : e k = c
    · rw [if_pos q]; exact ⟨Nat.le_refl _, by omega, q, fun i h1 h2 => absurd h2 (Nat.not_lt.mpr h1)⟩
    · rw [if_neg q]
      obtain ⟨a, b, d, f⟩ := wfs_ok (e := e) (c := c) (m := m) (k := k + 1) (by rw [show k + 1 + m = k + (m + 1) by omega]; exact h)
      refine ⟨by omega, by omega, d, fun i h1 h2 => ?_⟩
      by_cases j : i = k
      · rw [j]; exact q
      · exact f i (by omega) h2
def wle (r : Row) (j : Nat) : Nat := wfs (wlk r) (wlk r j) j 0
theorem wle_ok (r : Row) (j : Nat) : wle r j ≤ j ∧ wlk r (wle r j) = wlk r j ∧ ∀ i, i < wle r j → wlk r i ≠ wlk r j := by
  have := wfs_ok (e := wlk r) (c := wlk r j) (m := j) (k := 0) (by rw [Nat.zero_add])
  exact ⟨by unfold wle; omega, this.2.2.1, fun i hi => this.2.2.2 i (Nat.zero_le _) hi⟩
theorem wle_eq (r : Row) (j k : Nat) : wle r j = wle r k ↔ wlk r j = wlk r k := by
  obtain ⟨a1, a2, a3⟩ := wle_ok r j
  obtain ⟨b1, b2, b3⟩ := wle_ok r k
  constructor
  · intro e; rw [← a2, e, b2]
  · intro e
    rcases Nat.lt_trichotomy (wle r j) (wle r k) with q | q | q
    · exact absurd (a2.trans e) (b3 _ q)
    · exact q
    · exact absurd (b2.trans e.symm) (a3 _ q)
def wsn (r : Row) (j : Nat) : Nat := yset (yhas r (wlk r j)) (ywn r)
def sWord (r : Row) (j w : Int) : Int := if 0 ≤ j ∧ j < r 1 then (if w = 0 then r (70 + 8 * j.toNat) else if w = 1 then r (71 + 8 * j.toNat) else if w = 2 then ((wlk r j.toNat).length : Int) else if w = 3 then ybc (wsn r j.toNat) else if w = 4 then (wle r j.toNat : Int) else -1) else -1
theorem wsn_256 {r : Row} (v : Yvd r) (j : Nat) : wsn r j < 256 := yset_256 _ (ywn_le v)
theorem R32_sWord {r : Row} (v : Yvd r) (j w : Int) : R32 (sWord r j w) := by
  have hw := v.w
  unfold sWord
  split
  · rename_i c
    have h1 := v.wt j.toNat (by omega)
    have h2 := v.sz j.toNat (by omega)
    have h3 := wlk_len v (j := j.toNat) (by omega)
    have h4 := (ybx_dec ⟨_, wsn_256 v j.toNat⟩).2.2
    have h5 := (wle_ok r j.toNat).1
    dsimp only at h4
    repeat' split
    all_goals omega
  · exact r32m1
theorem cell_bd (y : Int32) : 0 ≤ (y &&& Int32.ofInt 2147483647).toInt ∧ (y &&& Int32.ofInt 2147483647).toInt ≤ 2147483647 := by
  have h : (y &&& Int32.ofInt 2147483647).toInt = (((y &&& Int32.ofInt 2147483647).toBitVec).toInt) := rfl
  rw [h, Int32.toBitVec_and]
  have e : (Int32.ofInt 2147483647).toBitVec = BitVec.ofNat 32 2147483647 := by decide
  rw [e]
  generalize y.toBitVec = b
  have hm : (b &&& BitVec.ofNat 32 2147483647).toNat ≤ 2147483647 := by
    rw [BitVec.toNat_and]
    exact Nat.le_trans Nat.and_le_right (by decide)
  rw [BitVec.toInt_eq_toNat_of_lt (by omega)]
  omega
section OBS
variable {S L : Nat} {F G : Nat → Nat → Int} {h : Nat → Nat → Option Nat} {Q : Option V2 → W2 → Prop} {r : Row} {n : Nat} {R : Nat → Row}
theorem Ob.rf {A : Nat → Nat → Int} : Ob A A := fun _ _ => rfl
theorem Ob.tr {A B C : Nat → Nat → Int} (a : Ob A B) (b : Ob B C) : Ob A C := fun p hp => by rw [b p hp, a p hp]
theorem Ob.of {A B : Nat → Nat → Int} (a : ∀ p, p < 275 ∨ 281 ≤ p → B p = A p) : Ob A B := fun p hp => a p (by omega)
theorem Oy.cg {F' : Nat → Nat → Int} (o : Oy F h r n R) (e : ∀ p, p < 275 ∨ p = 9999 → F' p = F p) : Oy F' h r n R :=
  ⟨o.1, o.2.1.cong (fun p h1 h2 => e p (by omega)) (fun _ _ => rfl) (fun _ _ _ _ => rfl), o.2.2.1, fun k => by rw [e 9999 (by omega)]; exact o.2.2.2 k⟩
theorem Oy.ob {F' : Nat → Nat → Int} (o : Oy F h r n R) (b : Ob F F') : Oy F' h r n R := o.cg (fun p hp => b p (by omega))
theorem Oy.hh (o : Oy F h r n R) : RfH h := o.1
theorem Oy.t (o : Oy F h r n R) : Ytk F 1 r := o.2.1.1
theorem Oy.v (o : Oy F h r n R) : Yvd r := o.2.1.2.1
theorem Oy.np (o : Oy F h r n R) : F 37 1 = (n : Int) := by
  obtain ⟨q, _, hp⟩ := o.2.1.2.2.1
  exact hp.1
theorem Oy.n6 (o : Oy F h r n R) : n ≤ 6 := by
  obtain ⟨q, _, hp⟩ := o.2.1.2.2.1
  exact hp.2.1
theorem Oy.tell {F' : Nat → Nat → Int} {h' : Nat → Nat → Option Nat} {r' : Row} {n' : Nat} {R' : Nat → Row} (o : Oy F h r n R) (hr : RfH h') (c : Yc F' h' r' n' R') (e9 : F' 9999 = F 9999) (g : ∀ p, p ≠ 38 → h' p = h p) : Oy F' h' r' n' R' := by
  obtain ⟨q, hq⟩ := o.2.2.1
  exact ⟨hr, c, ⟨q, hq.cong (g 166 (by decide))⟩, fun k => by rw [e9]; exact o.2.2.2 k⟩
theorem k72 (o : Oy F h r n R) {s w : Int} (rs : R32 s) (rw' : R32 w) {P : Int → Prop} (H : P (sTold r s w)) : C72_0 s w (Wd S L F G h) (fun v w1 => ∃ (x : Int), v = some (vi x) ∧ w1 = (Wd S L F G h) ∧ P x) :=
  K72 o.hh o.t o.v rs rw' (fun x e => ⟨x, rfl, rfl, by rw [e]; exact H⟩)
theorem k73 (o : Oy F h r n R) {i w : Int} (ri : R32 i) (rw' : R32 w) {P : Int → (Nat → Nat → Int) → Prop} (H : ∀ F', Oy F' h r n R → Ob F F' → P (sSounds r i w) F') : C73_0 i w (Wd S L F G h) (fun v w1 => ∃ (x : Int) (F' : Nat → Nat → Int), v = some (vi x) ∧ w1 = (Wd S L F' G h) ∧ P x F') :=
  K73 o.hh o.t o.v ri rw' (fun x F' e f => ⟨x, F', rfl, rfl, by rw [e]; exact H F' (o.ob (Ob.of f)) (Ob.of f)⟩)
theorem k74 (o : Oy F h r n R) {f w : Int} (ri : R32 f) (rw' : R32 w) {P : Int → (Nat → Nat → Int) → Prop} (H : ∀ F', Oy F' h r n R → Ob F F' → P (sAt r f w) F') : C74_0 f w (Wd S L F G h) (fun v w1 => ∃ (x : Int) (F' : Nat → Nat → Int), v = some (vi x) ∧ w1 = (Wd S L F' G h) ∧ P x F') :=
  K74 o.hh o.t o.v ri rw' (fun x F' e f => ⟨x, F', rfl, rfl, by rw [e]; exact H F' (o.ob (Ob.of f)) (Ob.of f)⟩)
theorem k75 (o : Oy F h r n R) {w : Int} (rw' : R32 w) {P : Int → (Nat → Nat → Int) → Prop} (H : ∀ F', Oy F' h r n R → Ob F F' → P (sCount r (n : Int) w) F') : C75_0 w (Wd S L F G h) (fun v w1 => ∃ (x : Int) (F' : Nat → Nat → Int), v = some (vi x) ∧ w1 = (Wd S L F' G h) ∧ P x F') :=
  K75 o.hh o.t o.v o.np rw' (fun x F' e f => ⟨x, F', rfl, rfl, by rw [e]; exact H F' (o.ob (Ob.of f)) (Ob.of f)⟩)
theorem k76 (o : Oy F h r n R) {i ax w : Int} (ri : R32 i) (ra : R32 ax) (rw' : R32 w) {P : Int → Prop} (H : P (sPulled r i ax w)) : C76_0 i ax w (Wd S L F G h) (fun v w1 => ∃ (x : Int), v = some (vi x) ∧ w1 = (Wd S L F G h) ∧ P x) :=
  K76 o.hh o.t o.v ri ra rw' (fun x e => ⟨x, rfl, rfl, by rw [e]; exact H⟩)
theorem k77 (o : Oy F h r n R) {f ax w : Int} (rf' : R32 f) (ra : R32 ax) (rw' : R32 w) {P : Int → (Nat → Nat → Int) → (Nat → Nat → Int) → Prop} (H : ∀ F' G', Oy F' h r n R → Ob F F' → P (sSmooth r f ax w) F' G') : C77_0 f ax w (Wd S L F G h) (fun v w1 => ∃ (x : Int) (F' : Nat → Nat → Int) (G' : Nat → Nat → Int), v = some (vj x) ∧ w1 = (Wd S L F' G' h) ∧ P x F' G') :=
  K77 o.hh o.t o.v rf' ra rw' (fun x F' G' e f g => ⟨x, F', G', rfl, rfl, by rw [e]; exact H F' G' (o.ob f) f⟩)
theorem k78 (o : Oy F h r n R) {ax w : Int} (ra : R32 ax) (rw' : R32 w) {P : Int → (Nat → Nat → Int) → (Nat → Nat → Int) → Prop} (H : ∀ F' G', Oy F' h r n R → Ob F F' → P (sJump r ax w) F' G') : C78_0 ax w (Wd S L F G h) (fun v w1 => ∃ (x : Int) (F' : Nat → Nat → Int) (G' : Nat → Nat → Int), v = some (vj x) ∧ w1 = (Wd S L F' G' h) ∧ P x F' G') :=
  K78 o.hh o.t o.v ra rw' (fun x F' G' e f g => ⟨x, F', G', rfl, rfl, by rw [e]; exact H F' G' (o.ob f) f⟩)
theorem k79 (o : Oy F h r n R) {ax x : Int} (ra : R32 ax) (rx : R32 x) {P : Int → (Nat → Nat → Int) → (Nat → Nat → Int) → Prop} (H : ∀ F' G', Oy F' h r n R → Ob F F' → P (sCalm r ax x) F' G') : C79_0 ax x (Wd S L F G h) (fun v w1 => ∃ (y : Int) (F' : Nat → Nat → Int) (G' : Nat → Nat → Int), v = some (vi y) ∧ w1 = (Wd S L F' G' h) ∧ P y F' G') :=
  K79 o.hh o.t o.v ra rx (fun y F' G' e f g => ⟨y, F', G', rfl, rfl, by rw [e]; exact H F' G' (o.ob f) f⟩)
theorem k80 (o : Oy F h r n R) {i w : Int} (ri : R32 i) (rw' : R32 w) {P : Int → Prop} (H : P (sOff r i w)) : C80_0 i w (Wd S L F G h) (fun v w1 => ∃ (x : Int), v = some (vi x) ∧ w1 = (Wd S L F G h) ∧ P x) :=
  K80 o.hh o.t o.v ri rw' (fun x e => ⟨x, rfl, rfl, by rw [e]; exact H⟩)
theorem k83 (o : Oy F h r n R) {j k : Int} (rj : R32 j) (rk : R32 k) {P : Int → Prop} (H : P (sLetter r j k)) : C83_0 j k (Wd S L F G h) (fun v w1 => ∃ (x : Int), v = some (vi x) ∧ w1 = (Wd S L F G h) ∧ P x) :=
  K83 o.hh o.t o.v rj rk (fun x e => ⟨x, rfl, rfl, by rw [e]; exact H⟩)
theorem k84 (o : Oy F h r n R) {a : Int} (ra : R32 a) {P : Int → Prop} (H : P (sGuess r a)) : C84_0 a (Wd S L F G h) (fun v w1 => ∃ (x : Int), v = some (vi x) ∧ w1 = (Wd S L F G h) ∧ P x) :=
  K84 o.hh o.t o.v ra ⟨_, rfl, rfl, H⟩
theorem K111 (hh : RfH h) {s : Nat} (hs : s < 256) (H : Q (some (vi (ybc s))) (Wd S L F G h)) : C111_0 (s : Int) (Wd S L F G h) Q := by
  refine T111_0 hh ?_
  have e := (ybx_dec ⟨s, hs⟩).1
  rw [← e] at H
  exact H
theorem k82 (o : Oy F h r n R) {a b : Int} (ra : R32 a) (rb : R32 b) {P : Int → Prop} (H : P (sWord r a b)) : C82_0 a b (Wd S L F G h) (fun v w1 => ∃ (x : Int), v = some (vi x) ∧ w1 = (Wd S L F G h) ∧ P x) := by
  have hh := o.hh
  have t := o.t
  have v := o.v
  have hw := v.w
  have hw8 := ywn_le v
  have fin : ∀ x : Int, x = sWord r a b → ∃ y : Int, some (vi x) = some (vi y) ∧ (Wd S L F G h) = (Wd S L F G h) ∧ P y := fun x e => ⟨x, rfl, rfl, by rw [e]; exact H⟩
  refine T82_0 hh ⟨ra, ?_⟩
  rw [t.w1]
  by_cases c0 : a < 0
  · rw [if_pos c0]; exact fin _ (by unfold sWord; rw [if_neg (by omega)])
  rw [if_neg c0]
  refine ⟨by omega, ?_⟩
  by_cases c1 : r 1 - 1 < a
  · rw [if_pos c1]; exact fin _ (by unfold sWord; rw [if_neg (by omega)])
  rw [if_neg c1]
  refine ⟨rb, ?_⟩
  obtain ⟨j, rfl⟩ : ∃ j : Nat, a = (j : Int) := ⟨a.toNat, by omega⟩
  have hj8 : j < 8 := by omega
  have hjw : j < ywn r := by unfold ywn; omega
  have hdj := wlk_dg v hj8
  have hlj := wlk_len v hj8
  have ejt : ((j : Nat) : Int).toNat = j := by omega
  have hset := wsn_256 v j
  have sw : sWord r (j : Int) b = (if b = 0 then r (70 + 8 * j) else if b = 1 then r (71 + 8 * j) else if b = 2 then ((wlk r j).length : Int) else if b = 3 then ybc (wsn r j) else if b = 4 then (wle r j : Int) else -1) := by
    unfold sWord; rw [if_pos (by omega), ejt]
  rw [ejt]
  by_cases b0 : b = 0
  · rw [if_pos b0, t.wt1 j hj8]
    exact ⟨by omega, fin _ (by rw [sw, if_pos b0])⟩
  rw [if_neg b0]
  by_cases b1 : b = 1
  · rw [if_pos b1, t.sz1 j hj8]
    exact ⟨by omega, fin _ (by rw [sw, if_neg b0, if_pos b1])⟩
  rw [if_neg b1]
  by_cases b2 : b = 2
  · rw [if_pos b2]
    exact K41 hh t v hj8 ⟨_, rfl, rfl, K109 hh hdj hlj ⟨_, rfl, rfl, fin _ (by rw [sw, if_neg b0, if_neg b1, if_pos b2])⟩⟩
  rw [if_neg b2]
  by_cases b3 : b = 3
  · rw [if_pos b3]
    exact K41 hh t v hj8 ⟨_, rfl, rfl, K42 hh t v hdj hlj ⟨_, rfl, rfl, K111 hh hset ⟨_, rfl, rfl, fin _ (by rw [sw, if_neg b0, if_neg b1, if_neg b2, if_pos b3]; rfl)⟩⟩⟩
  rw [if_neg b3]
  by_cases b4 : b = 4
  · rw [if_pos b4]
    obtain ⟨m1, m2, m3⟩ := wle_ok r j
    have q1 : (wsn r j).testBit (wle r j) = true := by unfold wsn; rw [wset (by omega)]; exact m2
    have q2 : ∀ k, k < wle r j → (wsn r j).testBit k = false := fun k hk => by
      cases hb : (wsn r j).testBit k
      · rfl
      · unfold wsn at hb; rw [wset (by omega)] at hb; exact absurd hb (m3 k hk)
    exact K41 hh t v hj8 ⟨_, rfl, rfl, K42 hh t v hdj hlj ⟨_, rfl, rfl, K110 hh hset (m := wle r j) (by omega) q1 q2 ⟨_, rfl, rfl, fin _ (by rw [sw, if_neg b0, if_neg b1, if_neg b2, if_neg b3, if_pos b4])⟩⟩⟩
  rw [if_neg b4]
  exact fin _ (by rw [sw, if_neg b0, if_neg b1, if_neg b2, if_neg b3, if_neg b4])
theorem k85 {tp : Nat → Int} {N : Nat} (hh : RfH h) (ta : TA tp N F) (hN : N < 90) {c : Int} (hc : 32 ≤ c ∧ c ≤ 126) {P : Int → (Nat → Nat → Int) → Prop} (H : ∀ F', TA (yu1 tp N c) (N + 1) F' → (∀ p, p ≠ 284 → p ≠ 285 → F' p = F p) → P ((N : Int) + 1) F') : C85_0 c (Wd S L F G h) (fun v w1 => ∃ (x : Int) (F' : Nat → Nat → Int), v = some (vi x) ∧ w1 = (Wd S L F' G h) ∧ P x F') := by
  refine T85_0 hh ⟨by omega, ?_⟩
  rw [if_neg (by omega), if_neg (by omega)]
  refine T48_0 hh ?_
  rw [ta.1]
  refine ⟨by omega, ?_⟩
  rw [if_pos (by omega)]
  have e : ((N : Nat) : Int).toNat = N := by omega
  rw [e]
  refine ⟨by omega, _, _, rfl, rfl, _, _, rfl, rfl, ?_⟩
  refine H _ ⟨?_, by omega, fun k hk => ?_⟩ (fun p h1 h2 => by rw [up_out h1, up_out h2])
  · rw [up_at, if_pos rfl]; omega
  · rw [up_out (by decide), up_at]
    unfold yu1
    by_cases q : k = N
    · rw [if_pos q, if_pos q]; exact ⟨rfl, hc⟩
    · rw [if_neg q, if_neg q]; exact ta.2.2 k (by omega)
theorem k86 {tp : Nat → Int} {N : Nat} (ta : TA tp N F) (o : Oy F h r n R) {P : Int → (Nat → Nat → Int) → (Nat → Nat → Option Nat) → Prop} (H : ∀ F' h' n' R', Oy F' h' (sRead tp N r).2 n' R' → F' 284 1 = 0 → F' 0 = F 0 → P (sRead tp N r).1 F' h') : C86_0 (Wd S L F G h) (fun v w1 => ∃ (x : Int) (F' : Nat → Nat → Int) (h' : Nat → Nat → Option Nat), v = some (vi x) ∧ w1 = (Wd S L F' G h') ∧ RfH h' ∧ P x F' h') :=
  K86 o.hh ta o.2.1 (fun F' h' hr c e1 f g => ⟨_, F', h', rfl, rfl, hr, H F' h' _ _ (o.tell hr c (f 9999 (Or.inr (by decide)) (by decide) (by decide) (by decide) (by decide)) g) e1 (f 0 (Or.inl rfl) (by decide) (by decide) (by decide) (by decide))⟩)
theorem k66 (o : Oy F h r n R) {a b d : Int} (ra : R32 a) (rb : R32 b) (rd : R32 d) {P : Int → (Nat → Nat → Int) → (Nat → Nat → Option Nat) → Prop} (H : ∀ F' h' n' R', Oy F' h' (sShape r a b d).2 n' R' → (∀ p, p = 0 ∨ 147 ≤ p → F' p = F p) → P (sShape r a b d).1 F' h') : C66_0 a b d (Wd S L F G h) (fun v w1 => ∃ (x : Int) (F' : Nat → Nat → Int) (h' : Nat → Nat → Option Nat), v = some (vi x) ∧ w1 = (Wd S L F' G h') ∧ RfH h' ∧ P x F' h') :=
  K66 o.hh o.2.1 ra rb rd (fun F' h' hr c f g => ⟨_, F', h', rfl, rfl, hr, H F' h' _ _ (o.tell hr c (f 9999 (Or.inr (by decide))) g) f⟩)
theorem k67 (o : Oy F h r n R) {a b d : Int} (ra : R32 a) (rb : R32 b) (rd : R32 d) {P : Int → (Nat → Nat → Int) → (Nat → Nat → Option Nat) → Prop} (H : ∀ F' h' n' R', Oy F' h' (sSign r a b d).2 n' R' → (∀ p, p = 0 ∨ 147 ≤ p → F' p = F p) → P (sSign r a b d).1 F' h') : C67_0 a b d (Wd S L F G h) (fun v w1 => ∃ (x : Int) (F' : Nat → Nat → Int) (h' : Nat → Nat → Option Nat), v = some (vi x) ∧ w1 = (Wd S L F' G h') ∧ RfH h' ∧ P x F' h') :=
  K67 o.hh o.2.1 ra rb rd (fun F' h' hr c f g => ⟨_, F', h', rfl, rfl, hr, H F' h' _ _ (o.tell hr c (f 9999 (Or.inr (by decide))) g) f⟩)
theorem k68 (o : Oy F h r n R) {a b : Int} (ra : R32 a) (rb : R32 b) {P : Int → (Nat → Nat → Int) → (Nat → Nat → Option Nat) → Prop} (H : ∀ F' h' n' R', Oy F' h' (sSound r a b).2 n' R' → (∀ p, p = 0 ∨ 147 ≤ p → F' p = F p) → P (sSound r a b).1 F' h') : C68_0 a b (Wd S L F G h) (fun v w1 => ∃ (x : Int) (F' : Nat → Nat → Int) (h' : Nat → Nat → Option Nat), v = some (vi x) ∧ w1 = (Wd S L F' G h') ∧ RfH h' ∧ P x F' h') :=
  K68 o.hh o.2.1 ra rb (fun F' h' hr c f g => ⟨_, F', h', rfl, rfl, hr, H F' h' _ _ (o.tell hr c (f 9999 (Or.inr (by decide))) g) f⟩)
theorem k69 (o : Oy F h r n R) {a : Int} (ra : R32 a) {P : Int → (Nat → Nat → Int) → (Nat → Nat → Option Nat) → Prop} (H : ∀ F' h' n' R', Oy F' h' (sOut r a).2 n' R' → (∀ p, p = 0 ∨ 147 ≤ p → F' p = F p) → P (sOut r a).1 F' h') : C69_0 a (Wd S L F G h) (fun v w1 => ∃ (x : Int) (F' : Nat → Nat → Int) (h' : Nat → Nat → Option Nat), v = some (vi x) ∧ w1 = (Wd S L F' G h') ∧ RfH h' ∧ P x F' h') :=
  K69 o.hh o.2.1 ra (fun F' h' hr c f g => ⟨_, F', h', rfl, rfl, hr, H F' h' _ _ (o.tell hr c (f 9999 (Or.inr (by decide))) g) f⟩)
theorem k70 (o : Oy F h r n R) {a b : Int} (ra : R32 a) (rb : R32 b) {P : Int → (Nat → Nat → Int) → (Nat → Nat → Option Nat) → Prop} (H : ∀ F' h' n' R', Oy F' h' (sFrame r a b).2 n' R' → (∀ p, p = 0 ∨ 147 ≤ p → F' p = F p) → P (sFrame r a b).1 F' h') : C70_0 a b (Wd S L F G h) (fun v w1 => ∃ (x : Int) (F' : Nat → Nat → Int) (h' : Nat → Nat → Option Nat), v = some (vi x) ∧ w1 = (Wd S L F' G h') ∧ RfH h' ∧ P x F' h') :=
  K70 o.hh o.2.1 ra rb (fun F' h' hr c f g => ⟨_, F', h', rfl, rfl, hr, H F' h' _ _ (o.tell hr c (f 9999 (Or.inr (by decide))) g) f⟩)
theorem k71 (o : Oy F h r n R) {a : Int} (ra : R32 a) {P : Int → (Nat → Nat → Int) → (Nat → Nat → Option Nat) → Prop} (H : ∀ F' h' n' R', Oy F' h' (sWindow r a).2 n' R' → (∀ p, p = 0 ∨ 147 ≤ p → F' p = F p) → P (sWindow r a).1 F' h') : C71_0 a (Wd S L F G h) (fun v w1 => ∃ (x : Int) (F' : Nat → Nat → Int) (h' : Nat → Nat → Option Nat), v = some (vi x) ∧ w1 = (Wd S L F' G h') ∧ RfH h' ∧ P x F' h') :=
  K71 o.hh o.2.1 ra (fun F' h' hr c f g => ⟨_, F', h', rfl, rfl, hr, H F' h' _ _ (o.tell hr c (f 9999 (Or.inr (by decide))) g) f⟩)
theorem k81 (o : Oy F h r n R) {a : Int} (ra : R32 a) {P : Int → (Nat → Nat → Int) → (Nat → Nat → Option Nat) → Prop} (H : ∀ F' h' n' R', Oy F' h' (sForget r a).2 n' R' → (∀ p, p = 0 ∨ 147 ≤ p → F' p = F p) → P (sForget r a).1 F' h') : C81_0 a (Wd S L F G h) (fun v w1 => ∃ (x : Int) (F' : Nat → Nat → Int) (h' : Nat → Nat → Option Nat), v = some (vi x) ∧ w1 = (Wd S L F' G h') ∧ RfH h' ∧ P x F' h') :=
  K81 o.hh o.2.1 ra (fun F' h' hr c f g => ⟨_, F', h', rfl, rfl, hr, H F' h' _ _ (o.tell hr c (f 9999 (Or.inr (by decide))) g) f⟩)
theorem k87 (o : Oy F h r n R) {a : Int} (ha : 1 ≤ a ∧ a ≤ 40) {P : Int → (Nat → Nat → Int) → (Nat → Nat → Option Nat) → Prop} (H : ∀ F' h', Oy F' h' (dIt r n R a.toNat).1 (dIt r n R a.toNat).2.1 (dIt r n R a.toNat).2.2 → (∀ p, p = 0 ∨ 147 ≤ p → F' p = F p) → (∀ p, p ≠ 38 → h' p = h p) → P ((dIt r n R a.toNat).1 0) F' h') : C87_0 a (Wd S L F G h) (fun v w1 => ∃ (x : Int) (F' : Nat → Nat → Int) (h' : Nat → Nat → Option Nat), v = some (vi x) ∧ w1 = (Wd S L F' G h') ∧ RfH h' ∧ P x F' h') :=
  K87 o.hh o.2.1 (by omega) (fun q => absurd ha q) (fun _ F' h' hr c f g => ⟨_, F', h', rfl, rfl, hr, H F' h' (o.tell hr c (f 9999 (Or.inr (by decide))) g) f g⟩)
theorem k88 (o : Oy F h r (n + 1) R) {P : Int → (Nat → Nat → Int) → Prop} (H : ∀ F', Oy F' h (R n) n R → (∀ p, p = 0 ∨ 147 ≤ p → F' p = F p) → P (n : Int) F') : C88_0 (Wd S L F G h) (fun v w1 => ∃ (x : Int) (F' : Nat → Nat → Int), v = some (vi x) ∧ w1 = (Wd S L F' G h) ∧ P x F') := by
  have hn := o.n6
  have e := o.np
  obtain ⟨i0, ⟨c1, c2, ⟨q, c3, c4⟩, c5⟩, i2, i3⟩ := o
  refine T88_0 i0 ⟨by omega, ?_⟩
  rw [if_neg (by omega)]
  refine K16 i0 c3 c4 (fun F1 k1 k2 k3 => ⟨_, rfl, rfl, ?_⟩)
  rw [k2.1]
  exact ⟨_, _, rfl, rfl, H F1 ⟨i0, ⟨k1, c5 n (by omega), ⟨q, c3, k2⟩, fun i hi => c5 i (by omega)⟩, i2, fun k => by rw [k3 9999 (by decide) (by decide)]; exact i3 k⟩ (fun p hp => k3 p (by omega) (by omega))⟩
theorem k88n (o : Oy F h r 0 R) {P : Int → (Nat → Nat → Int) → Prop} (H : P (-4) F) : C88_0 (Wd S L F G h) (fun v w1 => ∃ (x : Int) (F' : Nat → Nat → Int), v = some (vi x) ∧ w1 = (Wd S L F' G h) ∧ P x F') := by
  have e := o.np
  refine T88_0 o.hh ⟨by omega, ?_⟩
  rw [if_pos (by omega)]
  exact ⟨_, _, rfl, rfl, H⟩
theorem k89 (o : Oy F h r n R) {a : Int} (ha : 0 ≤ a ∧ a ≤ 2147483647) {P : Int → (Nat → Nat → Int) → Prop} (H : ∀ F', Oy F' h (yu1 r 5 a) n R → (∀ p, p ≠ 1 → F' p = F p) → P (r 5) F') : C89_0 a (Wd S L F G h) (fun v w1 => ∃ (x : Int) (F' : Nat → Nat → Int), v = some (vi x) ∧ w1 = (Wd S L F' G h) ∧ P x F') := by
  refine T89_0 o.hh ⟨by omega, ?_⟩
  rw [if_pos ha.1, o.t.dr1]
  have f : ∀ p, p ≠ 1 → am_up F 1 14 a p = F p := fun p hp => up_out hp
  obtain ⟨i0, ⟨c1, c2, ⟨q, c3, c4⟩, c5⟩, i2, i3⟩ := o
  refine ⟨_, _, rfl, rfl, H _ ⟨i0, ⟨?_, Yvd_draw c2 ha, ⟨q, c3, c4.cong c3 (fun p h1 h2 => f p (by omega))⟩, c5⟩, i2, fun k => by rw [f 9999 (by decide)]; exact i3 k⟩ f⟩
  refine Ytk.mk1 ⟨by have := c1.n1; simp only [am_up, yu1, if_true] <;> (repeat' split) <;> omega, by have := c1.lo1; simp only [am_up, yu1, if_true] <;> (repeat' split) <;> omega, by have := c1.by1; simp only [am_up, yu1, if_true] <;> (repeat' split) <;> omega, by have := c1.wi1; simp only [am_up, yu1, if_true] <;> (repeat' split) <;> omega, by have := c1.w1; simp only [am_up, yu1, if_true] <;> (repeat' split) <;> omega, by have := c1.dr1; simp only [am_up, yu1, if_true] <;> (repeat' split) <;> omega, fun k' hk' => by have := c1.op1 k' hk'; simp only [am_up, yu1, if_true] <;> (repeat' split) <;> omega, fun k' hk' => by have := c1.wd1 k' hk'; simp only [am_up, yu1, if_true] <;> (repeat' split) <;> omega, fun k' hk' => by have := c1.sh1 k' hk'; simp only [am_up, yu1, if_true] <;> (repeat' split) <;> omega, fun k' hk' => by have := c1.pu1 k' hk'; simp only [am_up, yu1, if_true] <;> (repeat' split) <;> omega, fun k' hk' => by have := c1.sg1 k' hk'; simp only [am_up, yu1, if_true] <;> (repeat' split) <;> omega, fun k' hk' => by have := c1.tm1 k' hk'; simp only [am_up, yu1, if_true] <;> (repeat' split) <;> omega, fun k' hk' => by have := c1.wt1 k' hk'; simp only [am_up, yu1, if_true] <;> (repeat' split) <;> omega, fun k' hk' => by have := c1.sz1 k' hk'; simp only [am_up, yu1, if_true] <;> (repeat' split) <;> omega, fun j hj k hk hl => ?_⟩
  have hl2 : (k : Int) < r (71 + 8 * j) := by
    simp only [yu1] at hl; rw [if_neg (by omega)] at hl; exact hl
  have := c1.lt1 j hj k hk hl2
  simp only [am_up, yu1]
  rw [if_neg (by omega), if_neg (by omega)]
  exact this
def Im (F : Nat → Nat → Int) (h : Nat → Nat → Option Nat) (r : Row) (n : Nat) (R : Nat → Row) : Prop := F 0 5 = 1 ∧ Ytk F 147 r ∧ Yvd r ∧ ∃ q, Ysth h 165 q ∧ Ypast F 165 q n R ∧ ∀ i, i < n → Yvd (R i)
theorem Im.cg {F' : Nat → Nat → Int} {h' : Nat → Nat → Option Nat} (m : Im F h r n R) (e : ∀ p, p = 0 ∨ (147 ≤ p ∧ p < 275) → F' p = F p) (eh : h' 166 = h 166) : Im F' h' r n R := by
  obtain ⟨a, b, c, q, d1, d2, d3⟩ := m
  exact ⟨by rw [e 0 (Or.inl rfl)]; exact a, b.cong (fun x h1 h2 => e x (by omega)), c, q, d1.cong eh, d2.cong d1 (fun p h1 h2 => e p (by omega)), d3⟩
theorem k90 (o : Oy F h r n R) {P : Int → (Nat → Nat → Int) → Prop} (H : ∀ F', Oy F' h r n R → Im F' h r n R → (∀ p, p ≠ 0 → ¬ (147 ≤ p ∧ p < 275) → F' p = F p) → P 1 F') : C90_0 (Wd S L F G h) (fun v w1 => ∃ (x : Int) (F' : Nat → Nat → Int), v = some (vi x) ∧ w1 = (Wd S L F' G h) ∧ P x F') := by
  obtain ⟨i0, ⟨c1, c2, ⟨q, c3, c4⟩, c5⟩, ⟨q5, hq5⟩, i3⟩ := o
  refine T90_0 i0 ?_
  refine K24 i0 rfl rfl (by decide) (fun F1 k1 k2 => ⟨_, rfl, rfl, ?_⟩)
  refine K17b i0 hq5 c3 (c4.cong c3 (fun p h1 h2 => k2 p (by omega))) (fun F2 a1 a2 => ⟨_, rfl, rfl, _, _, rfl, rfl, ?_⟩)
  have f : ∀ p, p ≠ 0 → ¬ (147 ≤ p ∧ p < 275) → am_up F2 0 5 1 p = F p := fun p q1 q2 => by rw [up_out q1, a2 p (by omega), k2 p (by omega)]
  refine H _ ⟨i0, Yc.cong ⟨c1, c2, ⟨q, c3, c4⟩, c5⟩ (fun p h1 h2 => f p (by omega) (by omega)) (fun _ _ => rfl) (fun _ _ _ _ => rfl), ⟨q5, hq5⟩, fun k => by rw [f 9999 (by decide) (by decide)]; exact i3 k⟩ ⟨?_, ?_, c2, q5, hq5, ?_, c5⟩ f
  · rw [up_at, if_pos rfl]
  · exact (k1 _ c1).cong (fun x h1 h2 => by rw [up_out (by omega), a2 x (by omega)])
  · exact a1.cong hq5 (fun p h1 h2 => up_out (by omega))
theorem k91 {ri : Row} {ni : Nat} {Ri : Nat → Row} (o : Oy F h r n R) (m : Im F h ri ni Ri) {P : Int → (Nat → Nat → Int) → Prop} (H : ∀ F', Oy F' h ri ni Ri → Im F' h ri ni Ri → (∀ p, p = 0 ∨ 147 ≤ p → F' p = F p) → P 1 F') : C91_0 (Wd S L F G h) (fun v w1 => ∃ (x : Int) (F' : Nat → Nat → Int), v = some (vi x) ∧ w1 = (Wd S L F' G h) ∧ P x F') := by
  have m0 := m
  obtain ⟨i0, ⟨c1, c2, ⟨q, c3, c4⟩, c5⟩, ⟨q5', hq5'⟩, i3⟩ := o
  obtain ⟨d1, d2, d3, q5, d5, d6, d7⟩ := m
  refine T91_0 i0 ⟨by omega, ?_⟩
  rw [if_neg (by omega)]
  refine K24 i0 rfl rfl (by decide) (fun F1 k1 k2 => ⟨_, rfl, rfl, ?_⟩)
  refine K17 i0 c3 d5 (d6.cong d5 (fun p h1 h2 => k2 p (by omega))) (fun F2 a1 a2 => ⟨_, rfl, rfl, _, _, rfl, rfl, ?_⟩)
  have f : ∀ p, p = 0 ∨ 147 ≤ p → F2 p = F p := fun p q1 => by rw [a2 p (by omega), k2 p (by omega)]
  exact H F2 ⟨i0, ⟨(k1 _ d2).cong (fun x h1 h2 => a2 x (by omega)), d3, ⟨q, c3, a1⟩, d7⟩, ⟨q5, d5⟩, fun k => by rw [f 9999 (by decide)]; exact i3 k⟩ (m0.cg (fun p hp => f p (by omega)) rfl) f
theorem k91n (o : Oy F h r n R) (e : F 0 5 = 0) {P : Int → (Nat → Nat → Int) → Prop} (H : P (-4) F) : C91_0 (Wd S L F G h) (fun v w1 => ∃ (x : Int) (F' : Nat → Nat → Int), v = some (vi x) ∧ w1 = (Wd S L F' G h) ∧ P x F') := by
  refine T91_0 o.hh ⟨by omega, ?_⟩
  rw [if_pos e]
  exact ⟨_, _, rfl, rfl, H⟩
theorem k112 (o : Oy F h r n R) {a : Int} (ha : 0 ≤ a ∧ a ≤ 1000) (hL : (L : Int) ≤ 3072) {P : Int → Prop} (H : ∀ x, 0 ≤ x → x ≤ 2147483647 → P x) : C112_0 a (Wd S L F G h) (fun v w1 => ∃ (x : Int), v = some (vi x) ∧ w1 = (Wd S L F G h) ∧ P x) := by
  have key : ∀ y : Int, 0 ≤ ((Int32.ofInt y) &&& Int32.ofInt 2147483647).toInt ∧ ((Int32.ofInt y) &&& Int32.ofInt 2147483647).toInt ≤ 2147483647 := fun y => cell_bd _
  refine T112_0 o.hh ⟨by omega, by omega, ?_⟩
  split
  · exact ⟨_, rfl, rfl, H _ (key _).1 (key _).2⟩
  · exact ⟨by omega, _, rfl, rfl, H _ (key _).1 (key _).2⟩
theorem L113 (hh : RfH h) {v : Int} (H : Q (some (vi v)) (Wd S L F G h)) : ∀ (m : Nat) (c x : Int), R32 x → ypl m c x = some v → C113_4 c x (Wd S L F G h) Q
  | 0, c, x, _, e => by simp [ypl] at e
  | m + 1, c, x, rx, e => by
    refine T113_4 hh ⟨rx, ?_⟩
    unfold ypl at e
    by_cases q : x = 0
    · rw [if_pos q] at e ⊢
      have : c = v := by injection e
      rw [this]; exact H
    · rw [if_neg q] at e ⊢
      exact L113 hh H m _ _ (r32_toInt _) e
theorem k113 (hh : RfH h) {s : Nat} (hs : s < 256) {P : Int → Prop} (H : P (ybc s)) : C113_0 (s : Int) (Wd S L F G h) (fun v w1 => ∃ (x : Int), v = some (vi x) ∧ w1 = (Wd S L F G h) ∧ P x) :=
  T113_0 hh (L113 hh ⟨_, rfl, rfl, H⟩ 9 0 _ (by omega) (ybx_dec ⟨s, hs⟩).2.1)
theorem L114 (hh : RfH h) : ∀ (m a b : Nat), b < m → a < 2 ^ 62 → b < 2 ^ 62 → Q (some (vj (Nat.gcd a b : Int))) (Wd S L F G h) → C114_17 (a : Int) (b : Int) (Wd S L F G h) Q
  | 0, a, b, h1, _, _, _ => absurd h1 (Nat.not_lt_zero _)
  | m + 1, a, b, h1, ha, hb, H => by
    have ha' : (a : Int) < 4611686018427387904 := by omega
    have hb' : (b : Int) < 4611686018427387904 := by omega
    refine T114_17 hh ⟨⟨by omega, by omega⟩, ?_⟩
    by_cases c : (b : Int) = 0
    · rw [if_pos c]
      have : b = 0 := by omega
      subst this
      rw [Nat.gcd_zero_right] at H
      exact H
    · rw [if_neg c]
      have hm : a % b < b := Nat.mod_lt _ (by omega)
      refine ⟨by omega, ?_⟩
      rw [show ((a : Int) % (b : Int)) = ((a % b : Nat) : Int) by omega]
      exact L114 hh m b (a % b) (by omega) hb (by omega) (by rw [gcd_step (by omega)] at H; exact H)
theorem k114 (hh : RfH h) {a b : Int} (ha : -4611686018427387903 ≤ a ∧ a ≤ 4611686018427387903) (hb : 0 ≤ b ∧ b ≤ 4611686018427387903) {P : Int → Prop} (H : P (Nat.gcd a.natAbs b.toNat : Int)) : C114_0 a b (Wd S L F G h) (fun v w1 => ∃ (x : Int), v = some (vj x) ∧ w1 = (Wd S L F G h) ∧ P x) := by
  refine T114_0 hh ⟨⟨by omega, by omega⟩, ?_⟩
  have go : ∀ x : Int, x = (a.natAbs : Int) → C114_17 x b (Wd S L F G h) (fun v w1 => ∃ (x : Int), v = some (vj x) ∧ w1 = (Wd S L F G h) ∧ P x) := fun x e => by
    obtain ⟨c, rfl⟩ : ∃ c : Nat, b = (c : Int) := ⟨b.toNat, by omega⟩
    rw [e]
    refine L114 hh (c + 1) a.natAbs c (by omega) (by omega) (by omega) ⟨_, rfl, rfl, ?_⟩
    rw [show ((c : Nat) : Int).toNat = c by omega] at H
    exact H
  split
  · exact go _ (by omega)
  · exact go _ (by omega)
end OBS
