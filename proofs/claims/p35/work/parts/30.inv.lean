/-! the invariant, the tells in the law -/
def Yc (F : Nat → Nat → Int) (h : Nat → Nat → Option Nat) (r : Row) (n : Nat) (R : Nat → Row) : Prop := Ytk F 1 r ∧ Yvd r ∧ (∃ q, Ysth h 37 q ∧ Ypast F 37 q n R) ∧ (∀ i, i < n → Yvd (R i))
def Yim (F : Nat → Nat → Int) (h : Nat → Nat → Option Nat) (m : Int) (ri : Row) (Ri : Nat → Row) : Prop := (F 0 5 = 0 ∧ m = -1 ∧ ∃ q, Ysth h 165 q) ∨ (F 0 5 = 1 ∧ Ytk F 147 ri ∧ Yvd ri ∧ ∃ (ni : Nat) (q : Nat → Nat), m = (ni : Int) ∧ Ysth h 165 q ∧ Ypast F 165 q ni Ri ∧ ∀ i, i < ni → Yvd (Ri i))
theorem Ypast.cong {F F' : Nat → Nat → Int} {pp : Nat} {q : Nat → Nat} {n : Nat} {R : Nat → Row} {h : Nat → Nat → Option Nat} (H : Ypast F pp q n R) (hq : Ysth h pp q) (e : ∀ p, pp ≤ p → p < pp + 110 → F' p = F p) : Ypast F' pp q n R := by
  refine ⟨by rw [e pp (by omega) (by omega)]; exact H.1, H.2.1, fun i hi => ?_⟩
  obtain ⟨j, hj, ej⟩ := hq.2.1 i (by have := H.2.1; omega)
  exact (H.2.2 i hi).cong (fun x h1 h2 => e x (by omega) (by omega))
theorem Ypast.row {F : Nat → Nat → Int} {pp : Nat} {q : Nat → Nat} {n : Nat} {R R' : Nat → Row} (H : Ypast F pp q n R) (e : ∀ i, i < n → ∀ k, k < 134 → R' i k = R i k) : Ypast F pp q n R' :=
  ⟨H.1, H.2.1, fun i hi => (H.2.2 i hi).row (e i hi)⟩
theorem Ysth.cong {h h' : Nat → Nat → Option Nat} {pp : Nat} {q : Nat → Nat} (H : Ysth h pp q) (e : h' (pp + 1) = h (pp + 1)) : Ysth h' pp q :=
  ⟨fun i hi => by rw [e]; exact H.1 i hi, H.2⟩
theorem Yc.cong {F F' : Nat → Nat → Int} {h : Nat → Nat → Option Nat} {r r' : Row} {n : Nat} {R R' : Nat → Row} (c : Yc F h r n R) (e : ∀ p, 1 ≤ p → p < 147 → F' p = F p) (er : ∀ k, k < 134 → r' k = r k) (eR : ∀ i, i < n → ∀ k, k < 134 → R' i k = R i k) : Yc F' h r' n R' := by
  obtain ⟨c1, c2, ⟨q, c3, c4⟩, c5⟩ := c
  exact ⟨(c1.cong (fun x h1 h2 => e x (by omega) (by omega))).row er, c2.cong er, ⟨q, c3, (c4.cong c3 (fun p h1 h2 => e p (by omega) (by omega))).row eR⟩, fun i hi => (c5 i hi).cong (eR i hi)⟩
theorem c5h {h h' : Nat → Nat → Option Nat} {q : Nat → Nat} (e : h' 166 = h 166) (c : Ysth h 165 q) : Ysth h' 165 q := c.cong e
theorem Yim.cong {F F' : Nat → Nat → Int} {h h' : Nat → Nat → Option Nat} {m : Int} {ri ri' : Row} {Ri Ri' : Nat → Row} (c : Yim F h m ri Ri) (e0 : F' 0 5 = F 0 5) (e : ∀ p, 147 ≤ p → p < 275 → F' p = F p) (eh : h' 166 = h 166) (er : ∀ k, k < 134 → ri' k = ri k) (eR : ∀ i, i < 6 → ∀ k, k < 134 → Ri' i k = Ri i k) : Yim F' h' m ri' Ri' := by
  rcases c with ⟨c1, c2, q, c3⟩ | ⟨c1, c2, c3, ni, q, c4, c5, c6, c7⟩
  · exact Or.inl ⟨by rw [e0]; exact c1, c2, q, c5h eh c3⟩
  · refine Or.inr ⟨by rw [e0]; exact c1, (c2.cong (fun x h1 h2 => e x (by omega) (by omega))).row er, c3.cong er, ni, q, c4, c5h eh c5, (c6.cong c5 (fun p h1 h2 => e p (by omega) (by omega))).row (fun i hi => eR i (by have := c6.2.1; omega)), fun i hi => (c7 i hi).cong (eR i (by have := c6.2.1; omega))⟩
section INV
variable {S L : Nat} {F G : Nat → Nat → Int} {h : Nat → Nat → Option Nat} {Q : Option V2 → W2 → Prop}
/-- the component's tells: what stood ahead is kept if the answer isn't below 0 -/
theorem tellC (hh : RfH h) {r : Row} {n : Nat} {R : Nat → Row} (c : Yc F h r n R) {sp : Int × Row} (hv : Yvd sp.2) (hx : R32 sp.1) {call : W2 → (Option V2 → W2 → Prop) → Prop}
    (hcall : ∀ (F1 : Nat → Nat → Int) (Q1 : Option V2 → W2 → Prop), Ytk F1 1 r → (∀ (x : Int) (r' : Row) (F' : Nat → Nat → Int), sp = (x, r') → Ytk F' 1 r' → (∀ p, p = 0 ∨ 19 ≤ p → F' p = F1 p) → Q1 (some (vi x)) (Wd S L F' G h)) → call (Wd S L F1 G h) Q1)
    (H : ∀ (F' : Nat → Nat → Int) (h' : Nat → Nat → Option Nat), RfH h' → Yc F' h' sp.2 (if sp.1 < 0 then n else pushN n) (if sp.1 < 0 then R else pushR n R r) → (∀ p, p = 0 ∨ 147 ≤ p → F' p = F p) → (∀ p, p ≠ 38 → h' p = h p) → Q (some (vi sp.1)) (Wd S L F' G h')) :
    C24_0 19 1 (Wd S L F G h) (fun v w1 => ∃ (F1 : Nat → Nat → Int), v = none ∧ w1 = (Wd S L F1 G h) ∧
      call (Wd S L F1 G h) (fun v w1 => ∃ (v2 : Int) (F3 : Nat → Nat → Int), v = some (vi v2) ∧ w1 = (Wd S L F3 G h) ∧
       (R32 v2 ∧
       (if v2 < 0 then
        Q (some (vi v2)) (Wd S L F3 G h)
       else
        C14_0 19 (Wd S L F3 G h) (fun v w1 => ∃ (F6 : Nat → Nat → Int) (h7 : Nat → Nat → Option Nat), v = none ∧ w1 = (Wd S L F6 G h7) ∧ RfH h7 ∧
         Q (some (vi v2)) (Wd S L F6 G h7)))))) := by
  obtain ⟨c1, c2, ⟨q, c3, c4⟩, c5⟩ := c
  refine K24 hh rfl rfl (by decide) (fun F1 k1 k2 => ⟨_, rfl, rfl, ?_⟩)
  have t1 : Ytk F1 1 r := c1.cong (fun x h1 h2 => k2 x (by omega))
  have t19 : Ytk F1 19 r := k1 r c1
  have hp1 : Ypast F1 37 q n R := c4.cong c3 (fun p h1 h2 => k2 p (by omega))
  refine hcall F1 _ t1 (fun x r' F3 hs t3 f3 => ⟨_, _, rfl, rfl, ?_⟩)
  have e1 : sp.1 = x := by rw [hs]
  have e2 : sp.2 = r' := by rw [hs]
  rw [e1] at H hx
  rw [e2] at H hv
  refine ⟨hx, ?_⟩
  have hp3 : Ypast F3 37 q n R := hp1.cong c3 (fun p h1 h2 => f3 p (by omega))
  split
  · rename_i hneg
    simp only [if_pos hneg] at H
    exact H F3 h hh ⟨t3, hv, ⟨q, c3, hp3⟩, c5⟩ (fun p hp => by rw [f3 p (by omega), k2 p (by omega)]) (fun p hp => rfl)
  · rename_i hneg
    simp only [if_neg hneg] at H
    have t19' : Ytk F3 19 r := t19.cong (fun x h1 h2 => f3 x (by omega))
    refine K14 hh rfl (by decide) c3 hp3 t19' (fun F6 h6 q6 a1 a2 a3 a4 a5 => ⟨_, _, rfl, rfl, a1, ?_⟩)
    refine H F6 h6 a1 ⟨t3.cong (fun x h1 h2 => a4 x (by omega)), hv, ⟨q6, a2, a3⟩, fun i hi => ?_⟩ (fun p hp => by rw [a4 p (by omega), f3 p (by omega), k2 p (by omega)]) a5
    unfold pushR
    unfold pushN at hi
    have := c4.2.1
    split
    · rename_i h6
      rw [if_pos h6] at hi
      split
      · exact c5 (i + 1) (by omega)
      · exact c2
    · rename_i h6
      rw [if_neg h6] at hi
      split
      · exact c2
      · exact c5 i (by omega)
theorem r32m1 : R32 (-1) := by decide
theorem r32m2 : R32 (-2) := by decide
theorem r32m3 : R32 (-3) := by decide
theorem R32_sShape {r : Row} (v : Yvd r) (k o w : Int) : R32 (sShape r k o w).1 := by
  unfold sShape
  split
  · rename_i hb
    have h1 := v.op k.toNat (by omega)
    have h2 := v.wd k.toNat (by omega)
    split
    · first | exact r32m1 | exact r32m2 | exact r32m3
    · show R32 (13 * r (6 + k.toNat) + r (14 + k.toNat)); omega
  · first | exact r32m1 | exact r32m2 | exact r32m3
theorem R32_sSign {r : Row} (v : Yvd r) (k o w : Int) : R32 (sSign r k o w).1 := by
  unfold sSign
  split
  · rename_i hb
    have h1 := v.sh k.toNat (by omega)
    have h2 := v.pu k.toNat (by omega)
    split
    · first | exact r32m1 | exact r32m2 | exact r32m3
    · show R32 (6 * r (22 + k.toNat) + r (34 + k.toNat)); omega
  · first | exact r32m1 | exact r32m2 | exact r32m3
theorem R32_sSound {r : Row} (v : Yvd r) (a b : Int) : R32 (sSound r a b).1 := by
  unfold sSound
  have := v.n
  split
  · split
    · show R32 (r 0); omega
    · first | exact r32m1 | exact r32m2 | exact r32m3
  · first | exact r32m1 | exact r32m2 | exact r32m3
theorem R32_sOut {r : Row} (v : Yvd r) (a : Int) : R32 (sOut r a).1 := by
  unfold sOut
  have := v.n
  split
  · show R32 (r 0 - 1); omega
  · first | exact r32m1 | exact r32m2 | exact r32m3
theorem R32_sForget {r : Row} (v : Yvd r) (a : Int) : R32 (sForget r a).1 := by
  unfold sForget
  have := v.w
  split
  · show R32 (r 1 - 1); omega
  · first | exact r32m1 | exact r32m2 | exact r32m3
theorem R32_sFrame {r : Row} (v : Yvd r) (a b : Int) : R32 (sFrame r a b).1 := by
  unfold sFrame
  have := v.lo
  have := v.by
  split
  · split
    · first | exact r32m1 | exact r32m2 | exact r32m3
    · split
      · show R32 (10 * r 2 + r 3); omega
      · first | exact r32m1 | exact r32m2 | exact r32m3
  · first | exact r32m1 | exact r32m2 | exact r32m3
theorem R32_sWindow {r : Row} (v : Yvd r) (a : Int) : R32 (sWindow r a).1 := by
  unfold sWindow
  have := v.wi
  split
  · split
    · first | exact r32m1 | exact r32m2 | exact r32m3
    · show R32 (r 4); omega
  · first | exact r32m1 | exact r32m2 | exact r32m3
theorem K66 (hh : RfH h) {r : Row} {n : Nat} {R : Nat → Row} (c : Yc F h r n R) {a b d : Int} (ra : R32 a) (rb : R32 b) (rd : R32 d)
    (H : ∀ (F' : Nat → Nat → Int) (h' : Nat → Nat → Option Nat), RfH h' → Yc F' h' (sShape r a b d).2 (if (sShape r a b d).1 < 0 then n else pushN n) (if (sShape r a b d).1 < 0 then R else pushR n R r) → (∀ p, p = 0 ∨ 147 ≤ p → F' p = F p) → (∀ p, p ≠ 38 → h' p = h p) → Q (some (vi (sShape r a b d).1)) (Wd S L F' G h')) : C66_0 a b d (Wd S L F G h) Q :=
  T66_0 hh (tellC (call := C30_0 a b d) hh c (Yvd_sShape c.2.1 _ _ _) (R32_sShape c.2.1 _ _ _) (fun F1 Q1 t1 k1 => K30 hh t1 c.2.1 ra rb rd k1) H)
theorem K67 (hh : RfH h) {r : Row} {n : Nat} {R : Nat → Row} (c : Yc F h r n R) {a b d : Int} (ra : R32 a) (rb : R32 b) (rd : R32 d)
    (H : ∀ (F' : Nat → Nat → Int) (h' : Nat → Nat → Option Nat), RfH h' → Yc F' h' (sSign r a b d).2 (if (sSign r a b d).1 < 0 then n else pushN n) (if (sSign r a b d).1 < 0 then R else pushR n R r) → (∀ p, p = 0 ∨ 147 ≤ p → F' p = F p) → (∀ p, p ≠ 38 → h' p = h p) → Q (some (vi (sSign r a b d).1)) (Wd S L F' G h')) : C67_0 a b d (Wd S L F G h) Q :=
  T67_0 hh (tellC (call := C31_0 a b d) hh c (Yvd_sSign c.2.1 _ _ _) (R32_sSign c.2.1 _ _ _) (fun F1 Q1 t1 k1 => K31 hh t1 c.2.1 ra rb rd k1) H)
theorem K68 (hh : RfH h) {r : Row} {n : Nat} {R : Nat → Row} (c : Yc F h r n R) {a b : Int} (ra : R32 a) (rb : R32 b)
    (H : ∀ (F' : Nat → Nat → Int) (h' : Nat → Nat → Option Nat), RfH h' → Yc F' h' (sSound r a b).2 (if (sSound r a b).1 < 0 then n else pushN n) (if (sSound r a b).1 < 0 then R else pushR n R r) → (∀ p, p = 0 ∨ 147 ≤ p → F' p = F p) → (∀ p, p ≠ 38 → h' p = h p) → Q (some (vi (sSound r a b).1)) (Wd S L F' G h')) : C68_0 a b (Wd S L F G h) Q :=
  T68_0 hh (tellC (call := C32_0 a b) hh c (Yvd_sSound c.2.1 _ _) (R32_sSound c.2.1 _ _) (fun F1 Q1 t1 k1 => K32 hh t1 c.2.1 ra rb k1) H)
theorem K69 (hh : RfH h) {r : Row} {n : Nat} {R : Nat → Row} (c : Yc F h r n R) {a : Int} (ra : R32 a)
    (H : ∀ (F' : Nat → Nat → Int) (h' : Nat → Nat → Option Nat), RfH h' → Yc F' h' (sOut r a).2 (if (sOut r a).1 < 0 then n else pushN n) (if (sOut r a).1 < 0 then R else pushR n R r) → (∀ p, p = 0 ∨ 147 ≤ p → F' p = F p) → (∀ p, p ≠ 38 → h' p = h p) → Q (some (vi (sOut r a).1)) (Wd S L F' G h')) : C69_0 a (Wd S L F G h) Q :=
  T69_0 hh (tellC (call := C33_0 a) hh c (Yvd_sOut c.2.1 _) (R32_sOut c.2.1 _) (fun F1 Q1 t1 k1 => K33 hh t1 c.2.1 ra k1) H)
theorem K70 (hh : RfH h) {r : Row} {n : Nat} {R : Nat → Row} (c : Yc F h r n R) {a b : Int} (ra : R32 a) (rb : R32 b)
    (H : ∀ (F' : Nat → Nat → Int) (h' : Nat → Nat → Option Nat), RfH h' → Yc F' h' (sFrame r a b).2 (if (sFrame r a b).1 < 0 then n else pushN n) (if (sFrame r a b).1 < 0 then R else pushR n R r) → (∀ p, p = 0 ∨ 147 ≤ p → F' p = F p) → (∀ p, p ≠ 38 → h' p = h p) → Q (some (vi (sFrame r a b).1)) (Wd S L F' G h')) : C70_0 a b (Wd S L F G h) Q :=
  T70_0 hh (tellC (call := C34_0 a b) hh c (Yvd_sFrame c.2.1 _ _) (R32_sFrame c.2.1 _ _) (fun F1 Q1 t1 k1 => K34 hh t1 c.2.1 ra rb k1) H)
theorem K71 (hh : RfH h) {r : Row} {n : Nat} {R : Nat → Row} (c : Yc F h r n R) {a : Int} (ra : R32 a)
    (H : ∀ (F' : Nat → Nat → Int) (h' : Nat → Nat → Option Nat), RfH h' → Yc F' h' (sWindow r a).2 (if (sWindow r a).1 < 0 then n else pushN n) (if (sWindow r a).1 < 0 then R else pushR n R r) → (∀ p, p = 0 ∨ 147 ≤ p → F' p = F p) → (∀ p, p ≠ 38 → h' p = h p) → Q (some (vi (sWindow r a).1)) (Wd S L F' G h')) : C71_0 a (Wd S L F G h) Q :=
  T71_0 hh (tellC (call := C35_0 a) hh c (Yvd_sWindow c.2.1 _) (R32_sWindow c.2.1 _) (fun F1 Q1 t1 k1 => K35 hh t1 c.2.1 ra k1) H)
end INV
