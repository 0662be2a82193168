/-! the invariant, the tells in the law -/
def Yc (F : Nat → Nat → Int) (h : Nat → Nat → Option Nat) (r : Row) (n : Nat) (R : Nat → Row) : Prop := Ytk F 1 r ∧ Yvd r ∧ (∃ q, Ysth h 37 q ∧ Ypast F 37 q n R) ∧ (∀ i, i < n → Yvd (R i))
def Yim (F : Nat → Nat → Int) (h : Nat → Nat → Option Nat) (m : Int) (ri : Row) (Ri : Nat → Row) : Prop := (F 0 5 = 0 ∧ m = -1 ∧ ∃ q, Ysth h 165 q) ∨ (F 0 5 = 1 ∧ Ytk F 147 ri ∧ Yvd ri ∧ ∃ (ni : Nat) (q : Nat → Nat), m = (ni : Int) ∧ Ysth h 165 q ∧ Ypast F 165 q ni Ri ∧ ∀ i, i < ni → Yvd (Ri i))
def Ytape (F : Nat → Nat → Int) : Prop := 0 ≤ F 297 7 ∧ F 297 7 ≤ 90 ∧ F 284 1 = F 297 7 ∧ ∀ k : Nat, (k : Int) < F 297 7 → F 285 k = F 302 k ∧ 32 ≤ F 302 k ∧ F 302 k ≤ 126
def Ysheet (F G : Nat → Nat → Int) : Prop := (∀ s, s < 4 → (F (289 + 2 * s) 0 = 0 ∧ F 303 s = -1) ∨ (F (289 + 2 * s) 0 = 1 ∧ F (289 + 2 * s) 1 = F 303 s ∧ 0 ≤ F 303 s ∧ F 303 s ≤ 3 ∧ F (289 + 2 * s) 2 = F 304 s ∧ 0 ≤ F 304 s ∧ F 304 s ≤ 24)) ∧ (∀ s, s < 4 → ∀ k, k < 24 → G (290 + 2 * s) k = G 305 (24 * s + k) ∧ R64 (G 305 (24 * s + k)))
def Inv (F G : Nat → Nat → Int) (h : Nat → Nat → Option Nat) (xs : Nat → Int) : Prop := RfH h ∧ (∃ n : Nat, F 297 2 = (n : Int) ∧ Yc F h (F 298) n (mR F 299)) ∧ Yim F h (F 297 5) (F 300) (mR F 301) ∧ Ytape F ∧ Ysheet F G ∧ (∀ k, F 9999 k = xs k) ∧ (∀ k, R32 (xs k))
theorem Ypast.cong {F F' : Nat → Nat → Int} {pp : Nat} {q : Nat → Nat} {n : Nat} {R : Nat → Row} {h : Nat → Nat → Option Nat} (H : Ypast F pp q n R) (hq : Ysth h pp q) (e : ∀ p, pp ≤ p → p < pp + 110 → F' p = F p) : Ypast F' pp q n R := by
  refine ⟨by rw [e pp (by omega) (by omega)]; exact H.1, H.2.1, fun i hi => ?_⟩
  obtain ⟨j, hj, ej⟩ := hq.2.1 i (by have := H.2.1; omega)
  exact (H.2.2 i hi).cong (fun x h1 h2 => e x (by omega) (by omega))
theorem Ypast.row {F : Nat → Nat → Int} {pp : Nat} {q : Nat → Nat} {n : Nat} {R R' : Nat → Row} (H : Ypast F pp q n R) (e : ∀ i, i < n → ∀ k, k < 134 → R' i k = R i k) : Ypast F pp q n R' :=
  ⟨H.1, H.2.1, fun i hi => (H.2.2 i hi).row (e i hi)⟩
theorem Ysth.cong {h h' : Nat → Nat → Option Nat} {pp : Nat} {q : Nat → Nat} (H : Ysth h pp q) (e : h' (pp + 1) = h (pp + 1)) : Ysth h' pp q :=
  ⟨fun i hi => by rw [e]; exact H.1 i hi, H.2⟩
theorem Yc.cong {F F' : Nat → Nat → Int} {h : Nat → Nat → Option Nat} {r r' : Row} {n : Nat} {R R' : Nat → Row} (c : Yc F h r n R) (e : ∀ p, 1 ≤ p → p < 147 → F' p = F p) (er : ∀ k, k < 134 → r' k = r k) (eR : ∀ i, i < n → ∀ k, k < 134 → R' i k = R i k) : Yc F' h r' n R' := by
  obtain ⟨c1, c2, ⟨q, c3, c4⟩, c5⟩ := c
  exact ⟨(c1.cong (fun x h1 h2 => e x (by omega) (by omega))).row er, c2.cong er, ⟨q, c3, (c4.cong c3 (fun p h1 h2 => e p (by omega) (by omega))).row eR⟩, fun i hi => (c5 i hi).cong (eR i hi)⟩
theorem c5h {h h' : Nat → Nat → Option Nat} {q : Nat → Nat} (e : h' 166 = h 166) (c : Ysth h 165 q) : Ysth h' 165 q := c.cong e
theorem Yim.cong {F F' : Nat → Nat → Int} {h h' : Nat → Nat → Option Nat} {m : Int} {ri ri' : Row} {Ri Ri' : Nat → Row} (c : Yim F h m ri Ri) (e0 : F' 0 5 = F 0 5) (e : ∀ p, 147 ≤ p → p < 275 → F' p = F p) (eh : h' 166 = h 166) (er : ∀ k, k < 134 → ri' k = ri k) (eR : ∀ i, i < 6 → ∀ k, k < 134 → Ri' i k = Ri i k) : Yim F' h' m ri' Ri' := by
  rcases c with ⟨c1, c2, q, c3⟩ | ⟨c1, c2, c3, ni, q, c4, c5, c6, c7⟩
  · exact Or.inl ⟨by rw [e0]; exact c1, c2, q, c5h eh c3⟩
  · refine Or.inr ⟨by rw [e0]; exact c1, (c2.cong (fun x h1 h2 => e x (by omega) (by omega))).row er, c3.cong er, ni, q, c4, c5h eh c5, (c6.cong c5 (fun p h1 h2 => e p (by omega) (by omega))).row (fun i hi => eR i (by have := c6.2.1; omega)), fun i hi => (c7 i hi).cong (eR i (by have := c6.2.1; omega))⟩
theorem Ytape.cong {F F' : Nat → Nat → Int} (c : Ytape F) (e7 : F' 297 7 = F 297 7) (e1 : F' 284 1 = F 284 1) (e2 : F' 285 = F 285) (e3 : F' 302 = F 302) : Ytape F' := by
  unfold Ytape
  rw [e7, e1, e2, e3]
  exact c
theorem Ysheet.cong {F F' G : Nat → Nat → Int} (c : Ysheet F G) (e : ∀ p, 288 ≤ p → p < 297 → F' p = F p) (e3 : F' 303 = F 303) (e4 : F' 304 = F 304) : Ysheet F' G := by
  refine ⟨fun s hs => ?_, c.2⟩
  rw [e (289 + 2 * s) (by omega) (by omega), e3, e4]
  exact c.1 s hs
section INV
variable {S L : Nat} {F G : Nat → Nat → Int} {h : Nat → Nat → Option Nat} {Q : Option V2 → W2 → Prop}
/-- the component's tells: what stood ahead is kept if the answer isn't below 0 -/
theorem tellC (hh : RfH h) {r : Row} {n : Nat} {R : Nat → Row} (c : Yc F h r n R) {sp : Int × Row} (hv : Yvd sp.2) (hx : R32 sp.1) {call : W2 → (Option V2 → W2 → Prop) → Prop}
    (hcall : ∀ (F1 : Nat → Nat → Int) (Q1 : Option V2 → W2 → Prop), Ytk F1 1 r → (∀ (x : Int) (r' : Row) (F' : Nat → Nat → Int), sp = (x, r') → Ytk F' 1 r' → (∀ p, p = 0 ∨ 19 ≤ p → F' p = F1 p) → Q1 (some (vi x)) (Wd S L F' G h)) → call (Wd S L F1 G h) Q1)
    (H : ∀ (F' : Nat → Nat → Int) (h' : Nat → Nat → Option Nat), RfH h' → Yc F' h' sp.2 (if sp.1 < 0 then n else pushN n) (if sp.1 < 0 then R else pushR n R r) → (∀ p, p = 0 ∨ 147 ≤ p → F' p = F p) → (∀ p, p ≠ 38 → h' p = h p) → Q (some (vi sp.1)) (Wd S L F' G h')) :
    C24_0 19 1 (Wd S L F G h) (fun v w1 => ∃ (F1 : Nat → Nat → Int), v = none ∧ w1 = (Wd S L F1 G h) ∧
      call (Wd S L F1 G h) (fun v w1 => ∃ (v2 : Int) (F3 : Nat → Nat → Int), v = some (vi v2) ∧ w1 = (Wd S L F3 G h) ∧
       (R32 v2 ∧
       (if v2 < 0 then
        Q (some (vi v2)) (Wd S L F3 G h)
       else
        C14_0 19 (Wd S L F3 G h) (fun v w1 => ∃ (F6 : Nat → Nat → Int) (h7 : Nat → Nat → Option Nat), v = none ∧ w1 = (Wd S L F6 G h7) ∧ RfH h7 ∧
         Q (some (vi v2)) (Wd S L F6 G h7)))))) := by
  obtain ⟨c1, c2, ⟨q, c3, c4⟩, c5⟩ := c
  refine K24 hh rfl rfl (by decide) (fun F1 k1 k2 => ⟨_, rfl, rfl, ?_⟩)
  have t1 : Ytk F1 1 r := c1.cong (fun x h1 h2 => k2 x (by omega))
  have t19 : Ytk F1 19 r := k1 r c1
  have hp1 : Ypast F1 37 q n R := c4.cong c3 (fun p h1 h2 => k2 p (by omega))
  refine hcall F1 _ t1 (fun x r' F3 hs t3 f3 => ⟨_, _, rfl, rfl, ?_⟩)
  have e1 : sp.1 = x := by rw [hs]
  have e2 : sp.2 = r' := by rw [hs]
  rw [e1] at H hx
  rw [e2] at H hv
  refine ⟨hx, ?_⟩
  have hp3 : Ypast F3 37 q n R := hp1.cong c3 (fun p h1 h2 => f3 p (by omega))
  split
  · rename_i hneg
    simp only [if_pos hneg] at H
    exact H F3 h hh ⟨t3, hv, ⟨q, c3, hp3⟩, c5⟩ (fun p hp => by rw [f3 p (by omega), k2 p (by omega)]) (fun p hp => rfl)
  · rename_i hneg
    simp only [if_neg hneg] at H
    have t19' : Ytk F3 19 r := t19.cong (fun x h1 h2 => f3 x (by omega))
    refine K14 hh rfl (by decide) c3 hp3 t19' (fun F6 h6 q6 a1 a2 a3 a4 a5 => ⟨_, _, rfl, rfl, a1, ?_⟩)
    refine H F6 h6 a1 ⟨t3.cong (fun x h1 h2 => a4 x (by omega)), hv, ⟨q6, a2, a3⟩, fun i hi => ?_⟩ (fun p hp => by rw [a4 p (by omega), f3 p (by omega), k2 p (by omega)]) a5
    unfold pushR
    unfold pushN at hi
    have := c4.2.1
    split
    · rename_i h6
      rw [if_pos h6] at hi
      split
      · exact c5 (i + 1) (by omega)
      · exact c2
    · rename_i h6
      rw [if_neg h6] at hi
      split
      · exact c2
      · exact c5 i (by omega)
/-- the reference's tells -/
theorem tellM (hh : RfH h) {n : Nat} (hn : n ≤ 6) (e2 : F 297 2 = (n : Int)) {sp : Int × Row} (hx : R32 sp.1) {call : W2 → (Option V2 → W2 → Prop) → Prop}
    (hcall : ∀ (F1 : Nat → Nat → Int) (Q1 : Option V2 → W2 → Prop), F1 298 = F 298 → (∀ (x : Int) (F' : Nat → Nat → Int), sp = (x, F' 298) → (∀ p, p ≠ 298 → F' p = F1 p) → Q1 (some (vi x)) (Wd S L F' G h)) → call (Wd S L F1 G h) Q1)
    (H : ∀ (F' : Nat → Nat → Int), F' 298 = sp.2 → F' 297 2 = ((if sp.1 < 0 then n else pushN n : Nat) : Int) → (∀ k, k ≠ 2 → F' 297 k = F 297 k) → (∀ i, i < (if sp.1 < 0 then n else pushN n) → ∀ k, k < 134 → mR F' 299 i k = (if sp.1 < 0 then mR F 299 else pushR n (mR F 299) (F 298)) i k) → (∀ p, p ≠ 297 → p ≠ 298 → p ≠ 299 → p ≠ 311 → F' p = F p) → Q (some (vi sp.1)) (Wd S L F' G h)) :
    C155_0 (Wd S L F G h) (fun v w1 => ∃ (F1 : Nat → Nat → Int), v = none ∧ w1 = (Wd S L F1 G h) ∧
      call (Wd S L F1 G h) (fun v w1 => ∃ (v2 : Int) (F3 : Nat → Nat → Int), v = some (vi v2) ∧ w1 = (Wd S L F3 G h) ∧
       (R32 v2 ∧
       (if v2 < 0 then
        Q (some (vi v2)) (Wd S L F3 G h)
       else
        C156_0 (Wd S L F3 G h) (fun v w1 => ∃ (F6 : Nat → Nat → Int), v = none ∧ w1 = (Wd S L F6 G h) ∧
         Q (some (vi v2)) (Wd S L F6 G h)))))) := by
  refine K155 hh (fun F1 a1 a2 => ⟨_, rfl, rfl, ?_⟩)
  refine hcall F1 _ (a2 298 (by omega)) (fun x F3 hs f3 => ⟨_, _, rfl, rfl, ?_⟩)
  have g1 : sp.1 = x := by rw [hs]
  have g2 : sp.2 = F3 298 := by rw [hs]
  rw [g1] at H hx
  rw [g2] at H
  refine ⟨hx, ?_⟩
  have e3 : F3 297 = F 297 := by rw [f3 297 (by omega), a2 297 (by omega)]
  have e4 : F3 299 = F 299 := by rw [f3 299 (by omega), a2 299 (by omega)]
  split
  · rename_i hneg
    simp only [if_pos hneg] at H
    refine H F3 rfl (by rw [e3]; exact e2) (fun k hk => by rw [e3]) (fun i hi k hk => by unfold mR; rw [e4]) (fun p h1 h2 h3 h4 => by rw [f3 p h2, a2 p h4])
  · rename_i hneg
    simp only [if_neg hneg] at H
    refine K156 hh hn (by rw [e3]; exact e2) (fun F6 b1 b2 b3 b4 => ⟨_, rfl, rfl, ?_⟩)
    refine H F6 (b4 298 (by omega) (by omega)) b1 (fun k hk => by rw [b2 k hk, e3]) (fun i hi k hk => ?_) (fun p h1 h2 h3 h4 => by rw [b4 p h1 h3, f3 p h2, a2 p h4])
    rw [b3 i hi k hk]
    have e5 : mR F3 299 = mR F 299 := by unfold mR; rw [e4]
    have e6 : F3 311 k = F 298 k := by rw [f3 311 (by omega), a1 k hk]
    rw [e5]
    unfold pushR
    split
    · split
      · rfl
      · exact e6
    · split
      · exact e6
      · rfl
/-- both sides together -/
theorem Inv.tell {xs : Nat → Int} (I : Inv F G h xs) {n : Nat} (e2 : F 297 2 = (n : Int)) {F1 F2 : Nat → Nat → Int} {h1 : Nat → Nat → Option Nat} {r : Row} {n' : Nat} {R' : Nat → Row} (hr : RfH h1) (c : Yc F1 h1 r n' R') (f1 : ∀ p, p = 0 ∨ 147 ≤ p → F1 p = F p) (g1 : ∀ p, p ≠ 38 → h1 p = h p)
    (m1 : F2 298 = r) (m2 : F2 297 2 = (n' : Int)) (m3 : ∀ k, k ≠ 2 → F2 297 k = F1 297 k) (m4 : ∀ i, i < n' → ∀ k, k < 134 → mR F2 299 i k = R' i k) (m5 : ∀ p, p ≠ 297 → p ≠ 298 → p ≠ 299 → p ≠ 311 → F2 p = F1 p) : Inv F2 G h1 xs := by
  obtain ⟨i0, i1, i2, i3, i4, i5, i6⟩ := I
  have o : ∀ p, p = 0 ∨ 147 ≤ p → p ≠ 297 → p ≠ 298 → p ≠ 299 → p ≠ 311 → F2 p = F p := fun p hp q1 q2 q3 q4 => by rw [m5 p q1 q2 q3 q4, f1 p hp]
  have o7 : ∀ k, k ≠ 2 → F2 297 k = F 297 k := fun k hk => by rw [m3 k hk, f1 297 (by omega)]
  refine ⟨hr, ⟨n', m2, c.cong (fun p h1 h2 => m5 p (by omega) (by omega) (by omega) (by omega)) (fun k hk => by rw [m1]) (fun i hi k hk => m4 i hi k hk)⟩, ?_, ?_, ?_, ?_, i6⟩
  · rw [o7 5 (by omega)]
    refine i2.cong (by rw [o 0 (by omega) (by omega) (by omega) (by omega) (by omega)]) (fun p h1 h2 => o p (by omega) (by omega) (by omega) (by omega) (by omega)) (g1 166 (by omega)) (fun k hk => by rw [o 300 (by omega) (by omega) (by omega) (by omega) (by omega)]) (fun i hi k hk => by unfold mR; rw [o 301 (by omega) (by omega) (by omega) (by omega) (by omega)])
  · exact i3.cong (o7 7 (by omega)) (by rw [o 284 (by omega) (by omega) (by omega) (by omega) (by omega)]) (o 285 (by omega) (by omega) (by omega) (by omega) (by omega)) (o 302 (by omega) (by omega) (by omega) (by omega) (by omega))
  · exact i4.cong (fun p h1 h2 => o p (by omega) (by omega) (by omega) (by omega) (by omega)) (o 303 (by omega) (by omega) (by omega) (by omega) (by omega)) (o 304 (by omega) (by omega) (by omega) (by omega) (by omega))
  · intro k
    rw [o 9999 (by omega) (by omega) (by omega) (by omega) (by omega)]
    exact i5 k
theorem r32m1 : R32 (-1) := by decide
theorem r32m2 : R32 (-2) := by decide
theorem r32m3 : R32 (-3) := by decide
theorem R32_sShape {r : Row} (v : Yvd r) (k o w : Int) : R32 (sShape r k o w).1 := by
  unfold sShape
  split
  · rename_i hb
    have h1 := v.op k.toNat (by omega)
    have h2 := v.wd k.toNat (by omega)
    split
    · first | exact r32m1 | exact r32m2 | exact r32m3
    · show R32 (13 * r (6 + k.toNat) + r (14 + k.toNat)); omega
  · first | exact r32m1 | exact r32m2 | exact r32m3
theorem R32_sSign {r : Row} (v : Yvd r) (k o w : Int) : R32 (sSign r k o w).1 := by
  unfold sSign
  split
  · rename_i hb
    have h1 := v.sh k.toNat (by omega)
    have h2 := v.pu k.toNat (by omega)
    split
    · first | exact r32m1 | exact r32m2 | exact r32m3
    · show R32 (6 * r (22 + k.toNat) + r (34 + k.toNat)); omega
  · first | exact r32m1 | exact r32m2 | exact r32m3
theorem R32_sSound {r : Row} (v : Yvd r) (a b : Int) : R32 (sSound r a b).1 := by
  unfold sSound
  have := v.n
  split
  · split
    · show R32 (r 0); omega
    · first | exact r32m1 | exact r32m2 | exact r32m3
  · first | exact r32m1 | exact r32m2 | exact r32m3
theorem R32_sOut {r : Row} (v : Yvd r) (a : Int) : R32 (sOut r a).1 := by
  unfold sOut
  have := v.n
  split
  · show R32 (r 0 - 1); omega
  · first | exact r32m1 | exact r32m2 | exact r32m3
theorem R32_sForget {r : Row} (v : Yvd r) (a : Int) : R32 (sForget r a).1 := by
  unfold sForget
  have := v.w
  split
  · show R32 (r 1 - 1); omega
  · first | exact r32m1 | exact r32m2 | exact r32m3
theorem R32_sFrame {r : Row} (v : Yvd r) (a b : Int) : R32 (sFrame r a b).1 := by
  unfold sFrame
  have := v.lo
  have := v.by
  split
  · split
    · first | exact r32m1 | exact r32m2 | exact r32m3
    · split
      · show R32 (10 * r 2 + r 3); omega
      · first | exact r32m1 | exact r32m2 | exact r32m3
  · first | exact r32m1 | exact r32m2 | exact r32m3
theorem R32_sWindow {r : Row} (v : Yvd r) (a : Int) : R32 (sWindow r a).1 := by
  unfold sWindow
  have := v.wi
  split
  · split
    · first | exact r32m1 | exact r32m2 | exact r32m3
    · show R32 (r 4); omega
  · first | exact r32m1 | exact r32m2 | exact r32m3
theorem K66 (hh : RfH h) {r : Row} {n : Nat} {R : Nat → Row} (c : Yc F h r n R) {a b d : Int} (ra : R32 a) (rb : R32 b) (rd : R32 d)
    (H : ∀ (F' : Nat → Nat → Int) (h' : Nat → Nat → Option Nat), RfH h' → Yc F' h' (sShape r a b d).2 (if (sShape r a b d).1 < 0 then n else pushN n) (if (sShape r a b d).1 < 0 then R else pushR n R r) → (∀ p, p = 0 ∨ 147 ≤ p → F' p = F p) → (∀ p, p ≠ 38 → h' p = h p) → Q (some (vi (sShape r a b d).1)) (Wd S L F' G h')) : C66_0 a b d (Wd S L F G h) Q :=
  T66_0 hh (tellC (call := C30_0 a b d) hh c (Yvd_sShape c.2.1 _ _ _) (R32_sShape c.2.1 _ _ _) (fun F1 Q1 t1 k1 => K30 hh t1 c.2.1 ra rb rd k1) H)
theorem K164 (hh : RfH h) {n : Nat} (hn : n ≤ 6) (e2 : F 297 2 = (n : Int)) (v : Yvd (F 298)) {a b d : Int} (ra : R32 a) (rb : R32 b) (rd : R32 d)
    (H : ∀ (F' : Nat → Nat → Int), F' 298 = (sShape (F 298) a b d).2 → F' 297 2 = ((if (sShape (F 298) a b d).1 < 0 then n else pushN n : Nat) : Int) → (∀ k, k ≠ 2 → F' 297 k = F 297 k) → (∀ i, i < (if (sShape (F 298) a b d).1 < 0 then n else pushN n) → ∀ k, k < 134 → mR F' 299 i k = (if (sShape (F 298) a b d).1 < 0 then mR F 299 else pushR n (mR F 299) (F 298)) i k) → (∀ p, p ≠ 297 → p ≠ 298 → p ≠ 299 → p ≠ 311 → F' p = F p) → Q (some (vi (sShape (F 298) a b d).1)) (Wd S L F' G h)) : C164_0 a b d (Wd S L F G h) Q :=
  T164_0 hh (tellM (call := C158_0 a b d) hh hn e2 (R32_sShape v _ _ _) (fun F2 Q1 t1 k1 => K158 hh (by rw [t1]; exact v) ra rb rd (fun x F' hs hf => k1 x F' (by rw [← hs, t1]) hf)) H)
theorem O176 {xs : Nat → Int} (I : Inv F G h xs) {x3 : Int} (hx : 0 ≤ x3 ∧ x3 + 6 ≤ (L : Int)) (hL : L ≤ 3072) (K : ∀ (F' G' : Nat → Nat → Int) (h' : Nat → Nat → Option Nat), Inv F' G' h' xs → C201_18 (x3 + 6) (Wd S L F' G' h') Q) : C201_176 x3 (Wd S L F G h) Q := by
  obtain ⟨n, e2, c⟩ := I.2.1
  have hh := I.1
  have v := c.2.1
  have hn : n ≤ 6 := by obtain ⟨q, -, c4⟩ := c.2.2.1; exact c4.2.1
  have hR : ∀ k, R32 (F 9999 k) := fun k => by rw [I.2.2.2.2.2.1 k]; exact I.2.2.2.2.2.2 k
  refine T201_176 hh ⟨by omega, by omega, by omega, by omega, by omega, by omega, ?_⟩
  refine K66 hh c (hR _) (hR _) (hR _) (fun F1 h1 hr c1 f1 g1 => ⟨_, _, _, rfl, rfl, hr, ?_⟩)
  have e9 : F1 9999 = F 9999 := f1 9999 (by omega)
  have e7 : F1 297 = F 297 := f1 297 (by omega)
  have e8 : F1 298 = F 298 := f1 298 (by omega)
  have eR : mR F1 299 = mR F 299 := by unfold mR; rw [f1 299 (by omega)]
  rw [e9]
  refine K164 hr hn (by rw [e7]; exact e2) (by rw [e8]; exact v) (hR _) (hR _) (hR _) (fun F2 m1 m2 m3 m4 m5 => ⟨_, _, rfl, rfl, ?_⟩)
  rw [e8] at m1 m2
  rw [eR, e8] at m4
  rw [e8]
  refine ⟨R32_sShape v _ _ _, R32_sShape v _ _ _, ?_⟩
  rw [if_pos rfl]
  exact K F2 G h1 (I.tell e2 hr c1 f1 g1 m1 m2 m3 m4 m5)
theorem K67 (hh : RfH h) {r : Row} {n : Nat} {R : Nat → Row} (c : Yc F h r n R) {a b d : Int} (ra : R32 a) (rb : R32 b) (rd : R32 d)
    (H : ∀ (F' : Nat → Nat → Int) (h' : Nat → Nat → Option Nat), RfH h' → Yc F' h' (sSign r a b d).2 (if (sSign r a b d).1 < 0 then n else pushN n) (if (sSign r a b d).1 < 0 then R else pushR n R r) → (∀ p, p = 0 ∨ 147 ≤ p → F' p = F p) → (∀ p, p ≠ 38 → h' p = h p) → Q (some (vi (sSign r a b d).1)) (Wd S L F' G h')) : C67_0 a b d (Wd S L F G h) Q :=
  T67_0 hh (tellC (call := C31_0 a b d) hh c (Yvd_sSign c.2.1 _ _ _) (R32_sSign c.2.1 _ _ _) (fun F1 Q1 t1 k1 => K31 hh t1 c.2.1 ra rb rd k1) H)
theorem K165 (hh : RfH h) {n : Nat} (hn : n ≤ 6) (e2 : F 297 2 = (n : Int)) (v : Yvd (F 298)) {a b d : Int} (ra : R32 a) (rb : R32 b) (rd : R32 d)
    (H : ∀ (F' : Nat → Nat → Int), F' 298 = (sSign (F 298) a b d).2 → F' 297 2 = ((if (sSign (F 298) a b d).1 < 0 then n else pushN n : Nat) : Int) → (∀ k, k ≠ 2 → F' 297 k = F 297 k) → (∀ i, i < (if (sSign (F 298) a b d).1 < 0 then n else pushN n) → ∀ k, k < 134 → mR F' 299 i k = (if (sSign (F 298) a b d).1 < 0 then mR F 299 else pushR n (mR F 299) (F 298)) i k) → (∀ p, p ≠ 297 → p ≠ 298 → p ≠ 299 → p ≠ 311 → F' p = F p) → Q (some (vi (sSign (F 298) a b d).1)) (Wd S L F' G h)) : C165_0 a b d (Wd S L F G h) Q :=
  T165_0 hh (tellM (call := C159_0 a b d) hh hn e2 (R32_sSign v _ _ _) (fun F2 Q1 t1 k1 => K159 hh (by rw [t1]; exact v) ra rb rd (fun x F' hs hf => k1 x F' (by rw [← hs, t1]) hf)) H)
theorem O219 {xs : Nat → Int} (I : Inv F G h xs) {x3 : Int} (hx : 0 ≤ x3 ∧ x3 + 6 ≤ (L : Int)) (hL : L ≤ 3072) (K : ∀ (F' G' : Nat → Nat → Int) (h' : Nat → Nat → Option Nat), Inv F' G' h' xs → C201_18 (x3 + 6) (Wd S L F' G' h') Q) : C201_219 x3 (Wd S L F G h) Q := by
  obtain ⟨n, e2, c⟩ := I.2.1
  have hh := I.1
  have v := c.2.1
  have hn : n ≤ 6 := by obtain ⟨q, -, c4⟩ := c.2.2.1; exact c4.2.1
  have hR : ∀ k, R32 (F 9999 k) := fun k => by rw [I.2.2.2.2.2.1 k]; exact I.2.2.2.2.2.2 k
  refine T201_219 hh ⟨by omega, by omega, by omega, by omega, by omega, by omega, ?_⟩
  refine K67 hh c (hR _) (hR _) (hR _) (fun F1 h1 hr c1 f1 g1 => ⟨_, _, _, rfl, rfl, hr, ?_⟩)
  have e9 : F1 9999 = F 9999 := f1 9999 (by omega)
  have e7 : F1 297 = F 297 := f1 297 (by omega)
  have e8 : F1 298 = F 298 := f1 298 (by omega)
  have eR : mR F1 299 = mR F 299 := by unfold mR; rw [f1 299 (by omega)]
  rw [e9]
  refine K165 hr hn (by rw [e7]; exact e2) (by rw [e8]; exact v) (hR _) (hR _) (hR _) (fun F2 m1 m2 m3 m4 m5 => ⟨_, _, rfl, rfl, ?_⟩)
  rw [e8] at m1 m2
  rw [eR, e8] at m4
  rw [e8]
  refine ⟨R32_sSign v _ _ _, R32_sSign v _ _ _, ?_⟩
  rw [if_pos rfl]
  exact K F2 G h1 (I.tell e2 hr c1 f1 g1 m1 m2 m3 m4 m5)
theorem K68 (hh : RfH h) {r : Row} {n : Nat} {R : Nat → Row} (c : Yc F h r n R) {a b : Int} (ra : R32 a) (rb : R32 b)
    (H : ∀ (F' : Nat → Nat → Int) (h' : Nat → Nat → Option Nat), RfH h' → Yc F' h' (sSound r a b).2 (if (sSound r a b).1 < 0 then n else pushN n) (if (sSound r a b).1 < 0 then R else pushR n R r) → (∀ p, p = 0 ∨ 147 ≤ p → F' p = F p) → (∀ p, p ≠ 38 → h' p = h p) → Q (some (vi (sSound r a b).1)) (Wd S L F' G h')) : C68_0 a b (Wd S L F G h) Q :=
  T68_0 hh (tellC (call := C32_0 a b) hh c (Yvd_sSound c.2.1 _ _) (R32_sSound c.2.1 _ _) (fun F1 Q1 t1 k1 => K32 hh t1 c.2.1 ra rb k1) H)
theorem K166 (hh : RfH h) {n : Nat} (hn : n ≤ 6) (e2 : F 297 2 = (n : Int)) (v : Yvd (F 298)) {a b : Int} (ra : R32 a) (rb : R32 b)
    (H : ∀ (F' : Nat → Nat → Int), F' 298 = (sSound (F 298) a b).2 → F' 297 2 = ((if (sSound (F 298) a b).1 < 0 then n else pushN n : Nat) : Int) → (∀ k, k ≠ 2 → F' 297 k = F 297 k) → (∀ i, i < (if (sSound (F 298) a b).1 < 0 then n else pushN n) → ∀ k, k < 134 → mR F' 299 i k = (if (sSound (F 298) a b).1 < 0 then mR F 299 else pushR n (mR F 299) (F 298)) i k) → (∀ p, p ≠ 297 → p ≠ 298 → p ≠ 299 → p ≠ 311 → F' p = F p) → Q (some (vi (sSound (F 298) a b).1)) (Wd S L F' G h)) : C166_0 a b (Wd S L F G h) Q :=
  T166_0 hh (tellM (call := C160_0 a b) hh hn e2 (R32_sSound v _ _) (fun F2 Q1 t1 k1 => K160 hh (by rw [t1]; exact v) ra rb (fun x F' hs hf => k1 x F' (by rw [← hs, t1]) hf)) H)
theorem O262 {xs : Nat → Int} (I : Inv F G h xs) {x3 : Int} (hx : 0 ≤ x3 ∧ x3 + 6 ≤ (L : Int)) (hL : L ≤ 3072) (K : ∀ (F' G' : Nat → Nat → Int) (h' : Nat → Nat → Option Nat), Inv F' G' h' xs → C201_18 (x3 + 6) (Wd S L F' G' h') Q) : C201_262 x3 (Wd S L F G h) Q := by
  obtain ⟨n, e2, c⟩ := I.2.1
  have hh := I.1
  have v := c.2.1
  have hn : n ≤ 6 := by obtain ⟨q, -, c4⟩ := c.2.2.1; exact c4.2.1
  have hR : ∀ k, R32 (F 9999 k) := fun k => by rw [I.2.2.2.2.2.1 k]; exact I.2.2.2.2.2.2 k
  refine T201_262 hh ⟨by omega, by omega, by omega, by omega, ?_⟩
  refine K68 hh c (hR _) (hR _) (fun F1 h1 hr c1 f1 g1 => ⟨_, _, _, rfl, rfl, hr, ?_⟩)
  have e9 : F1 9999 = F 9999 := f1 9999 (by omega)
  have e7 : F1 297 = F 297 := f1 297 (by omega)
  have e8 : F1 298 = F 298 := f1 298 (by omega)
  have eR : mR F1 299 = mR F 299 := by unfold mR; rw [f1 299 (by omega)]
  rw [e9]
  refine K166 hr hn (by rw [e7]; exact e2) (by rw [e8]; exact v) (hR _) (hR _) (fun F2 m1 m2 m3 m4 m5 => ⟨_, _, rfl, rfl, ?_⟩)
  rw [e8] at m1 m2
  rw [eR, e8] at m4
  rw [e8]
  refine ⟨R32_sSound v _ _, R32_sSound v _ _, ?_⟩
  rw [if_pos rfl]
  exact K F2 G h1 (I.tell e2 hr c1 f1 g1 m1 m2 m3 m4 m5)
theorem K69 (hh : RfH h) {r : Row} {n : Nat} {R : Nat → Row} (c : Yc F h r n R) {a : Int} (ra : R32 a)
    (H : ∀ (F' : Nat → Nat → Int) (h' : Nat → Nat → Option Nat), RfH h' → Yc F' h' (sOut r a).2 (if (sOut r a).1 < 0 then n else pushN n) (if (sOut r a).1 < 0 then R else pushR n R r) → (∀ p, p = 0 ∨ 147 ≤ p → F' p = F p) → (∀ p, p ≠ 38 → h' p = h p) → Q (some (vi (sOut r a).1)) (Wd S L F' G h')) : C69_0 a (Wd S L F G h) Q :=
  T69_0 hh (tellC (call := C33_0 a) hh c (Yvd_sOut c.2.1 _) (R32_sOut c.2.1 _) (fun F1 Q1 t1 k1 => K33 hh t1 c.2.1 ra k1) H)
theorem K167 (hh : RfH h) {n : Nat} (hn : n ≤ 6) (e2 : F 297 2 = (n : Int)) (v : Yvd (F 298)) {a : Int} (ra : R32 a)
    (H : ∀ (F' : Nat → Nat → Int), F' 298 = (sOut (F 298) a).2 → F' 297 2 = ((if (sOut (F 298) a).1 < 0 then n else pushN n : Nat) : Int) → (∀ k, k ≠ 2 → F' 297 k = F 297 k) → (∀ i, i < (if (sOut (F 298) a).1 < 0 then n else pushN n) → ∀ k, k < 134 → mR F' 299 i k = (if (sOut (F 298) a).1 < 0 then mR F 299 else pushR n (mR F 299) (F 298)) i k) → (∀ p, p ≠ 297 → p ≠ 298 → p ≠ 299 → p ≠ 311 → F' p = F p) → Q (some (vi (sOut (F 298) a).1)) (Wd S L F' G h)) : C167_0 a (Wd S L F G h) Q :=
  T167_0 hh (tellM (call := C161_0 a) hh hn e2 (R32_sOut v _) (fun F2 Q1 t1 k1 => K161 hh (by rw [t1]; exact v) ra (fun x F' hs hf => k1 x F' (by rw [← hs, t1]) hf)) H)
theorem O295 {xs : Nat → Int} (I : Inv F G h xs) {x3 : Int} (hx : 0 ≤ x3 ∧ x3 + 6 ≤ (L : Int)) (hL : L ≤ 3072) (K : ∀ (F' G' : Nat → Nat → Int) (h' : Nat → Nat → Option Nat), Inv F' G' h' xs → C201_18 (x3 + 6) (Wd S L F' G' h') Q) : C201_295 x3 (Wd S L F G h) Q := by
  obtain ⟨n, e2, c⟩ := I.2.1
  have hh := I.1
  have v := c.2.1
  have hn : n ≤ 6 := by obtain ⟨q, -, c4⟩ := c.2.2.1; exact c4.2.1
  have hR : ∀ k, R32 (F 9999 k) := fun k => by rw [I.2.2.2.2.2.1 k]; exact I.2.2.2.2.2.2 k
  refine T201_295 hh ⟨by omega, by omega, ?_⟩
  refine K69 hh c (hR _) (fun F1 h1 hr c1 f1 g1 => ⟨_, _, _, rfl, rfl, hr, ?_⟩)
  have e9 : F1 9999 = F 9999 := f1 9999 (by omega)
  have e7 : F1 297 = F 297 := f1 297 (by omega)
  have e8 : F1 298 = F 298 := f1 298 (by omega)
  have eR : mR F1 299 = mR F 299 := by unfold mR; rw [f1 299 (by omega)]
  rw [e9]
  refine K167 hr hn (by rw [e7]; exact e2) (by rw [e8]; exact v) (hR _) (fun F2 m1 m2 m3 m4 m5 => ⟨_, _, rfl, rfl, ?_⟩)
  rw [e8] at m1 m2
  rw [eR, e8] at m4
  rw [e8]
  refine ⟨R32_sOut v _, R32_sOut v _, ?_⟩
  rw [if_pos rfl]
  exact K F2 G h1 (I.tell e2 hr c1 f1 g1 m1 m2 m3 m4 m5)
theorem K70 (hh : RfH h) {r : Row} {n : Nat} {R : Nat → Row} (c : Yc F h r n R) {a b : Int} (ra : R32 a) (rb : R32 b)
    (H : ∀ (F' : Nat → Nat → Int) (h' : Nat → Nat → Option Nat), RfH h' → Yc F' h' (sFrame r a b).2 (if (sFrame r a b).1 < 0 then n else pushN n) (if (sFrame r a b).1 < 0 then R else pushR n R r) → (∀ p, p = 0 ∨ 147 ≤ p → F' p = F p) → (∀ p, p ≠ 38 → h' p = h p) → Q (some (vi (sFrame r a b).1)) (Wd S L F' G h')) : C70_0 a b (Wd S L F G h) Q :=
  T70_0 hh (tellC (call := C34_0 a b) hh c (Yvd_sFrame c.2.1 _ _) (R32_sFrame c.2.1 _ _) (fun F1 Q1 t1 k1 => K34 hh t1 c.2.1 ra rb k1) H)
theorem K168 (hh : RfH h) {n : Nat} (hn : n ≤ 6) (e2 : F 297 2 = (n : Int)) (v : Yvd (F 298)) {a b : Int} (ra : R32 a) (rb : R32 b)
    (H : ∀ (F' : Nat → Nat → Int), F' 298 = (sFrame (F 298) a b).2 → F' 297 2 = ((if (sFrame (F 298) a b).1 < 0 then n else pushN n : Nat) : Int) → (∀ k, k ≠ 2 → F' 297 k = F 297 k) → (∀ i, i < (if (sFrame (F 298) a b).1 < 0 then n else pushN n) → ∀ k, k < 134 → mR F' 299 i k = (if (sFrame (F 298) a b).1 < 0 then mR F 299 else pushR n (mR F 299) (F 298)) i k) → (∀ p, p ≠ 297 → p ≠ 298 → p ≠ 299 → p ≠ 311 → F' p = F p) → Q (some (vi (sFrame (F 298) a b).1)) (Wd S L F' G h)) : C168_0 a b (Wd S L F G h) Q :=
  T168_0 hh (tellM (call := C162_0 a b) hh hn e2 (R32_sFrame v _ _) (fun F2 Q1 t1 k1 => K162 hh (by rw [t1]; exact v) ra rb (fun x F' hs hf => k1 x F' (by rw [← hs, t1]) hf)) H)
theorem O318 {xs : Nat → Int} (I : Inv F G h xs) {x3 : Int} (hx : 0 ≤ x3 ∧ x3 + 6 ≤ (L : Int)) (hL : L ≤ 3072) (K : ∀ (F' G' : Nat → Nat → Int) (h' : Nat → Nat → Option Nat), Inv F' G' h' xs → C201_18 (x3 + 6) (Wd S L F' G' h') Q) : C201_318 x3 (Wd S L F G h) Q := by
  obtain ⟨n, e2, c⟩ := I.2.1
  have hh := I.1
  have v := c.2.1
  have hn : n ≤ 6 := by obtain ⟨q, -, c4⟩ := c.2.2.1; exact c4.2.1
  have hR : ∀ k, R32 (F 9999 k) := fun k => by rw [I.2.2.2.2.2.1 k]; exact I.2.2.2.2.2.2 k
  refine T201_318 hh ⟨by omega, by omega, by omega, by omega, ?_⟩
  refine K70 hh c (hR _) (hR _) (fun F1 h1 hr c1 f1 g1 => ⟨_, _, _, rfl, rfl, hr, ?_⟩)
  have e9 : F1 9999 = F 9999 := f1 9999 (by omega)
  have e7 : F1 297 = F 297 := f1 297 (by omega)
  have e8 : F1 298 = F 298 := f1 298 (by omega)
  have eR : mR F1 299 = mR F 299 := by unfold mR; rw [f1 299 (by omega)]
  rw [e9]
  refine K168 hr hn (by rw [e7]; exact e2) (by rw [e8]; exact v) (hR _) (hR _) (fun F2 m1 m2 m3 m4 m5 => ⟨_, _, rfl, rfl, ?_⟩)
  rw [e8] at m1 m2
  rw [eR, e8] at m4
  rw [e8]
  refine ⟨R32_sFrame v _ _, R32_sFrame v _ _, ?_⟩
  rw [if_pos rfl]
  exact K F2 G h1 (I.tell e2 hr c1 f1 g1 m1 m2 m3 m4 m5)
theorem K71 (hh : RfH h) {r : Row} {n : Nat} {R : Nat → Row} (c : Yc F h r n R) {a : Int} (ra : R32 a)
    (H : ∀ (F' : Nat → Nat → Int) (h' : Nat → Nat → Option Nat), RfH h' → Yc F' h' (sWindow r a).2 (if (sWindow r a).1 < 0 then n else pushN n) (if (sWindow r a).1 < 0 then R else pushR n R r) → (∀ p, p = 0 ∨ 147 ≤ p → F' p = F p) → (∀ p, p ≠ 38 → h' p = h p) → Q (some (vi (sWindow r a).1)) (Wd S L F' G h')) : C71_0 a (Wd S L F G h) Q :=
  T71_0 hh (tellC (call := C35_0 a) hh c (Yvd_sWindow c.2.1 _) (R32_sWindow c.2.1 _) (fun F1 Q1 t1 k1 => K35 hh t1 c.2.1 ra k1) H)
theorem K169 (hh : RfH h) {n : Nat} (hn : n ≤ 6) (e2 : F 297 2 = (n : Int)) (v : Yvd (F 298)) {a : Int} (ra : R32 a)
    (H : ∀ (F' : Nat → Nat → Int), F' 298 = (sWindow (F 298) a).2 → F' 297 2 = ((if (sWindow (F 298) a).1 < 0 then n else pushN n : Nat) : Int) → (∀ k, k ≠ 2 → F' 297 k = F 297 k) → (∀ i, i < (if (sWindow (F 298) a).1 < 0 then n else pushN n) → ∀ k, k < 134 → mR F' 299 i k = (if (sWindow (F 298) a).1 < 0 then mR F 299 else pushR n (mR F 299) (F 298)) i k) → (∀ p, p ≠ 297 → p ≠ 298 → p ≠ 299 → p ≠ 311 → F' p = F p) → Q (some (vi (sWindow (F 298) a).1)) (Wd S L F' G h)) : C169_0 a (Wd S L F G h) Q :=
  T169_0 hh (tellM (call := C163_0 a) hh hn e2 (R32_sWindow v _) (fun F2 Q1 t1 k1 => K163 hh (by rw [t1]; exact v) ra (fun x F' hs hf => k1 x F' (by rw [← hs, t1]) hf)) H)
theorem O351 {xs : Nat → Int} (I : Inv F G h xs) {x3 : Int} (hx : 0 ≤ x3 ∧ x3 + 6 ≤ (L : Int)) (hL : L ≤ 3072) (K : ∀ (F' G' : Nat → Nat → Int) (h' : Nat → Nat → Option Nat), Inv F' G' h' xs → C201_18 (x3 + 6) (Wd S L F' G' h') Q) : C201_351 x3 (Wd S L F G h) Q := by
  obtain ⟨n, e2, c⟩ := I.2.1
  have hh := I.1
  have v := c.2.1
  have hn : n ≤ 6 := by obtain ⟨q, -, c4⟩ := c.2.2.1; exact c4.2.1
  have hR : ∀ k, R32 (F 9999 k) := fun k => by rw [I.2.2.2.2.2.1 k]; exact I.2.2.2.2.2.2 k
  refine T201_351 hh ⟨by omega, by omega, ?_⟩
  refine K71 hh c (hR _) (fun F1 h1 hr c1 f1 g1 => ⟨_, _, _, rfl, rfl, hr, ?_⟩)
  have e9 : F1 9999 = F 9999 := f1 9999 (by omega)
  have e7 : F1 297 = F 297 := f1 297 (by omega)
  have e8 : F1 298 = F 298 := f1 298 (by omega)
  have eR : mR F1 299 = mR F 299 := by unfold mR; rw [f1 299 (by omega)]
  rw [e9]
  refine K169 hr hn (by rw [e7]; exact e2) (by rw [e8]; exact v) (hR _) (fun F2 m1 m2 m3 m4 m5 => ⟨_, _, rfl, rfl, ?_⟩)
  rw [e8] at m1 m2
  rw [eR, e8] at m4
  rw [e8]
  refine ⟨R32_sWindow v _, R32_sWindow v _, ?_⟩
  rw [if_pos rfl]
  exact K F2 G h1 (I.tell e2 hr c1 f1 g1 m1 m2 m3 m4 m5)
end INV
