/-! read in the law, the reference's side -/
section READ2
variable {S L : Nat} {F G : Nat → Nat → Int} {h : Nat → Nat → Option Nat} {Q : Option V2 → W2 → Prop} {tp : Nat → Int} {N : Nat}
theorem Ktail (hh : RfH h) {n : Nat} (hn : n ≤ 6) {F0 F9 : Nat → Nat → Int} (e2 : F0 297 2 = (n : Int)) {x : YR} (c : MS tp N F9 x) (fn : FN F0 F9) {sp : Int × Row} {call : W2 → (Option V2 → W2 → Prop) → Prop}
    (hx : x.1 = true → R32 sp.1)
    (hcall : x.1 = true → ∀ (F1 : Nat → Nat → Int) (Q1 : Option V2 → W2 → Prop), F1 298 = F0 298 → (∀ k, k ≠ 7 → k ≠ 22 → F1 297 k = F9 297 k) → F1 312 = F9 312 → (∀ (x : Int) (F' : Nat → Nat → Int), sp = (x, F' 298) → (∀ p, p ≠ 298 → F' p = F1 p) → Q1 (some (vi x)) (Wd S L F' G h)) → call (Wd S L F1 G h) Q1)
    (HT : (yrb x (pend tp N)).1 = true → ∀ F' : Nat → Nat → Int, F' 298 = sp.2 → F' 297 2 = ((if sp.1 < 0 then n else pushN n : Nat) : Int) → F' 297 7 = 0 → (∀ k, k ≠ 2 → k ≠ 7 → k ≠ 22 → k ≠ 23 → k ≠ 24 → k ≠ 25 → F' 297 k = F0 297 k) → (∀ i, i < (if sp.1 < 0 then n else pushN n) → ∀ k, k < 134 → mR F' 299 i k = (if sp.1 < 0 then mR F0 299 else pushR n (mR F0 299) (F0 298)) i k) → (∀ p, p ≠ 297 → p ≠ 298 → p ≠ 299 → p ≠ 311 → p ≠ 312 → F' p = F0 p) → Q (some (vi sp.1)) (Wd S L F' G h))
    (HF : (yrb x (pend tp N)).1 = false → ∀ F' : Nat → Nat → Int, F' 297 7 = 0 → (∀ k, k ≠ 7 → k ≠ 22 → k ≠ 23 → k ≠ 24 → k ≠ 25 → F' 297 k = F0 297 k) → (∀ p, p ≠ 297 → p ≠ 312 → F' p = F0 p) → Q (some (vi ((-20) - ((yrb x (pend tp N)).2 : Int)))) (Wd S L F' G h)) :
    (R32 (F9 297 23) ∧
     (if (F9 297 23) = 0 then
      C172_0  (Wd S L F9 G h) (fun v w1 => ∃ (v12 : Int) (F13 : Nat → Nat → Int), v = some (vi v12) ∧ w1 = (Wd S L F13 G h) ∧
       (R32 v12 ∧
       (if v12 = 0 then
        C172_0  (Wd S L F13 G h) (fun v w1 => ∃ (v16 : Int) (F17 : Nat → Nat → Int), v = some (vi v16) ∧ w1 = (Wd S L F17 G h) ∧
         C155_0  (Wd S L (am_up F17 297 7 0) G h) (fun v w1 => ∃ (F18 : Nat → Nat → Int), v = none ∧ w1 = (Wd S L F18 G h) ∧
          call (Wd S L F18 G h) (fun v w1 => ∃ (v19 : Int) (F20 : Nat → Nat → Int), v = some (vi v19) ∧ w1 = (Wd S L F20 G h) ∧
           (R32 v19 ∧
           (if v19 < 0 then
            Q (some (vi v19)) (Wd S L F20 G h)
           else
            C156_0  (Wd S L F20 G h) (fun v w1 => ∃ (F23 : Nat → Nat → Int), v = none ∧ w1 = (Wd S L F23 G h) ∧
             Q (some (vi v19)) (Wd S L F23 G h)))))))
       else
        C172_0  (Wd S L F13 G h) (fun v w1 => ∃ (v24 : Int) (F25 : Nat → Nat → Int), v = some (vi v24) ∧ w1 = (Wd S L F25 G h) ∧
         Q (some (vi ((-20) - (F25 297 22)))) (Wd S L (am_up F25 297 7 0) G h)))))
     else
      C172_0  (Wd S L F9 G h) (fun v w1 => ∃ (v26 : Int) (F27 : Nat → Nat → Int), v = some (vi v26) ∧ w1 = (Wd S L F27 G h) ∧
       Q (some (vi ((-20) - (F27 297 22)))) (Wd S L (am_up F27 297 7 0) G h)))) := by
  have hb := ysk_bd (tp := tp) c.2.1
  cases e : x.1
  · obtain ⟨h1, h2⟩ := c.2.2.2.2 e
    have ey : yrb x (pend tp N) = x := by unfold yrb; rw [if_neg (by rw [e]; simp)]
    rw [ey] at HF
    refine ⟨by omega, ?_⟩
    rw [if_neg (by omega)]
    refine K172 hh c.2.1 c.1 c.2.2.1 (fun F1 t1 e1 k1 f1 => ⟨_, _, rfl, rfl, ?_⟩)
    rw [e1, ysk_stop h2]
    exact HF e _ (by rw [up_at, if_pos rfl]) (fun k a1 a2 a3 a4 a5 => by rw [up_at, if_neg a1, k1 k a2, fn.1 k a2 a3 a4 a5]) (fun p p1 p2 => by rw [up_out p1, f1 p p1, fn.2 p p1 p2])
  · have h1 := c.2.2.2.1 e
    have ey : yrb x (pend tp N) = pend tp N x.2 := by unfold yrb; rw [if_pos e]
    rw [ey] at HF HT
    refine ⟨by omega, ?_⟩
    rw [if_pos h1]
    refine K172 hh c.2.1 c.1 c.2.2.1 (fun F1 t1 e1 k1 f1 => ⟨_, _, rfl, rfl, ?_⟩)
    obtain ⟨b1, b2, b3, b4⟩ := ych_bd t1 (ysk tp N x.2)
    have es : ysk tp N (ysk tp N x.2) = ysk tp N x.2 := ysk_stop (fun q => ysk_end c.2.1 q)
    refine ⟨by omega, ?_⟩
    by_cases g : ysk tp N x.2 < N
    · have := b3 g
      have ep : pend tp N x.2 = (false, ysk tp N x.2) := by unfold pend; rw [if_pos g]
      rw [ep] at HF
      rw [if_neg (by omega)]
      refine K172 hh hb.2 t1 e1 (fun F2 t2 e22 k2 f2 => ⟨_, _, rfl, rfl, ?_⟩)
      rw [e22, es]
      exact HF rfl _ (by rw [up_at, if_pos rfl]) (fun k a1 a2 a3 a4 a5 => by rw [up_at, if_neg a1, k2 k a2, k1 k a2, fn.1 k a2 a3 a4 a5]) (fun p p1 p2 => by rw [up_out p1, f2 p p1, f1 p p1, fn.2 p p1 p2])
    · have := b4 g
      have ep : pend tp N x.2 = (true, ysk tp N x.2) := by unfold pend; rw [if_neg g]
      rw [ep] at HT
      rw [if_pos (by omega)]
      refine K172 hh hb.2 t1 e1 (fun F2 t2 e22 k2 f2 => ⟨_, _, rfl, rfl, ?_⟩)
      have o7 : ∀ k, k ≠ 7 → k ≠ 22 → am_up F2 297 7 0 297 k = F9 297 k := fun k a1 a2 => by rw [up_at, if_neg a1, k2 k a2, k1 k a2]
      have oo : ∀ p, p ≠ 297 → am_up F2 297 7 0 p = F9 p := fun p p1 => by rw [up_out p1, f2 p p1, f1 p p1]
      have o298 : am_up F2 297 7 0 298 = F0 298 := by rw [oo 298 (by decide), fn.2 298 (by decide) (by decide)]
      have o299 : mR (am_up F2 297 7 0) 299 = mR F0 299 := by unfold mR; rw [oo 299 (by decide), fn.2 299 (by decide) (by decide)]
      have e72 : am_up F2 297 7 0 297 2 = (n : Int) := by rw [o7 2 (by decide) (by decide), fn.1 2 (by decide) (by decide) (by decide) (by decide)]; exact e2
      refine tellM2 (call := call) hh hn e72 (hx e) (fun F3 Q1 q1 q2 => ?_) (fun F' m1 m2 m3 m4 m5 => ?_)
      · exact hcall e F3 Q1 (by rw [q1 298 (by decide)]; exact o298) (fun k a1 a2 => by rw [q1 297 (by decide)]; exact o7 k a1 a2) (by rw [q1 312 (by decide)]; exact oo 312 (by decide)) q2
      · rw [o299, o298] at m4
        exact HT rfl F' m1 m2 (by rw [m3 7 (by decide), up_at, if_pos rfl]) (fun k a1 a2 a3 a4 a5 a6 => by rw [m3 k a1, o7 k a2 a3, fn.1 k a3 a4 a5 a6]) m4 (fun p p1 p2 p3 p4 p5 => by rw [m5 p p1 p2 p3 p4, oo p p1, fn.2 p p1 p5])
theorem K180v (hh : RfH h) {s : Nat} (hs : s ≤ N) (t : TB tp N F) (ep : F 297 22 = (s : Int)) (H : ∀ F' : Nat → Nat → Int, F' 297 22 = ((yke tp N s : Nat) : Int) → (∀ k, k ≠ 22 → F' 297 k = F 297 k) → (∀ q, q ≠ 297 → F' q = F q) → Q (some (vj (yltrH (ylt tp s (yke tp N s - s))))) (Wd S L F' G h)) : C180_7 0 (ych tp N s) (Wd S L F G h) Q := by
  have := L180 (G := G) (S := S) (L := L) (Q := Q) (tp := tp) (N := N) hh (s := s) (N - s) s F (by omega) (Nat.le_refl _) (fun k a b => by omega) t ep H
  rw [Nat.sub_self] at this
  exact this
theorem K185 (hh : RfH h) (tb : TB tp N F) (v : Yvd (F 298)) {n : Nat} (hn : n ≤ 6) (e2 : F 297 2 = (n : Int))
    (H : ∀ F' : Nat → Nat → Int, F' 298 = (sRead tp N (F 298)).2 → F' 297 2 = ((if (sRead tp N (F 298)).1 < 0 then n else pushN n : Nat) : Int) → F' 297 7 = 0 → (∀ k, k ≠ 2 → k ≠ 7 → k ≠ 22 → k ≠ 23 → k ≠ 24 → k ≠ 25 → F' 297 k = F 297 k) → (∀ i, i < (if (sRead tp N (F 298)).1 < 0 then n else pushN n) → ∀ k, k < 134 → mR F' 299 i k = (if (sRead tp N (F 298)).1 < 0 then mR F 299 else pushR n (mR F 299) (F 298)) i k) → (∀ p, p ≠ 297 → p ≠ 298 → p ≠ 299 → p ≠ 311 → p ≠ 312 → F' p = F p) → Q (some (vi (sRead tp N (F 298)).1)) (Wd S L F' G h)) : C185_0 (Wd S L F G h) Q := by
  generalize hF0 : am_up (am_up F 297 22 0) 297 23 0 = F0
  have fn0 : FN F F0 := by rw [← hF0]; exact (FN.cnt (Or.inl rfl)).trans (FN.cnt (Or.inr (Or.inl rfl)))
  have e22 : F0 297 22 = ((0 : Nat) : Int) := by rw [← hF0, up_at, if_neg (by decide), up_at, if_pos rfl]; rfl
  have e23 : F0 297 23 = 0 := by rw [← hF0, up_at, if_pos rfl]
  have hb := ysk_bd (tp := tp) (N := N) (p := 0) (by omega)
  refine T185_0 hh ?_
  rw [hF0]
  refine K172 hh (p := 0) (by omega) (tb.fn fn0) e22 (fun F1 t1 e1 k1 f1 => ⟨_, _, rfl, rfl, ?_⟩)
  have es : ysk tp N (ysk tp N 0) = ysk tp N 0 := ysk_stop (fun q => ysk_end (by omega) q)
  refine T180_0 hh (K172 hh hb.2 t1 e1 (fun F2 t2 e22' k2 f2 => ⟨_, _, rfl, rfl, ?_⟩))
  rw [es] at e22' ⊢
  have pk := pke_bd (tp := tp) (N := N) (N - ysk tp N 0) (ysk tp N 0) hb.2
  refine K180v hh hb.2 t2 e22' (fun F4 e4 k4 f4 => ⟨_, _, rfl, rfl, ?_⟩)
  have eke : pke tp N (N - ysk tp N 0) (ysk tp N 0) = yke tp N (ysk tp N 0) := rfl
  rw [eke] at pk
  refine K184 hh pk.1 pk.2.2 ⟨_, rfl, rfl, ?_⟩
  have bd : 0 ≤ ykn tp N 0 ∧ ykn tp N 0 ≤ 4 := ykd_bd _ _ _
  have ekn : ykd tp (ysk tp N 0) (yke tp N (ysk tp N 0)) = ykn tp N 0 := rfl
  rw [ekn]
  have fn4 : FN F F4 := fn0.trans ⟨fun k a _ _ _ => by rw [k4 k a, k2 k a, k1 k a], fun q a _ => by rw [f4 q a, f2 q a, f1 q a]⟩
  have h23 : F4 297 23 = 0 := by rw [k4 23 (by decide), k2 23 (by decide), k1 23 (by decide), e23]
  have c4 : MS tp N F4 (true, yke tp N (ysk tp N 0)) := ⟨tb.fn fn4, pk.2.1, e4, fun _ => h23, fun k => by simp at k⟩
  by_cases k0 : ykn tp N 0 = 0
  · rw [if_pos k0]
    refine ⟨by decide, ?_⟩
    rw [if_neg (by decide), if_neg (by decide), if_neg (by decide), if_neg (by decide), if_neg (by decide)]
    have fn5 : FN F4 (am_up (am_up F4 297 23 1) 297 22 (F1 297 22)) := (FN.cnt (Or.inr (Or.inl rfl))).trans (FN.cnt (Or.inl rfl))
    have c5 : TB tp N (am_up (am_up F4 297 23 1) 297 22 (F1 297 22)) := c4.1.fn fn5
    refine K172 hh hb.2 c5 (by rw [up_at, if_pos rfl]; exact e1) (fun F6 t6 e6 k6 f6 => ⟨_, _, rfl, rfl, ?_⟩)
    have epk : pkind tp N 0 = (false, ysk tp N 0) := by unfold pkind; rw [if_pos k0]
    have ea : pall tp N = (false, ysk tp N 0) := by unfold pall; rw [epk]; rfl
    have er : sRead tp N (F 298) = (-20 - ((ysk tp N 0 : Nat) : Int), F 298) := by unfold sRead; rw [ea]; rfl
    rw [er] at H
    dsimp only at H
    have hneg : (-20 - ((ysk tp N 0 : Nat) : Int)) < 0 := by omega
    rw [if_pos hneg, if_pos hneg] at H
    rw [e1]
    have o : ∀ p, p ≠ 297 → p ≠ 312 → am_up F6 297 7 0 p = F p := fun p p1 p2 => by rw [up_out p1, f6 p p1, fn5.2 p p1 p2, fn4.2 p p1 p2]
    have o7 : ∀ k, k ≠ 7 → k ≠ 22 → k ≠ 23 → k ≠ 24 → k ≠ 25 → am_up F6 297 7 0 297 k = F 297 k := fun k a1 a2 a3 a4 a5 => by rw [up_at, if_neg a1, k6 k a2, fn5.1 k a2 a3 a4 a5, fn4.1 k a2 a3 a4 a5]
    exact H _ (o 298 (by decide) (by decide)) (by rw [o7 2 (by decide) (by decide) (by decide) (by decide) (by decide)]; exact e2) (by rw [up_at, if_pos rfl]) (fun k _ a2 a3 a4 a5 a6 => o7 k a2 a3 a4 a5 a6) (fun i hi k hk => by unfold mR; rw [o 299 (by decide) (by decide)]) (fun p p1 _ _ _ p5 => o p p1 p5)
  rw [if_neg k0]
  have epk : pkind tp N 0 = (true, yke tp N (ysk tp N 0)) := by unfold pkind; rw [if_neg k0]
  have ea : pall tp N = yrb (pbody tp N (ykn tp N 0) (yke tp N (ysk tp N 0))) (pend tp N) := by unfold pall; rw [epk]; rfl
  have er1 : (pall tp N).1 = true → sRead tp N (F 298) = sLine tp N (F 298) (ykn tp N 0) (yke tp N (ysk tp N 0)) := fun g => by unfold sRead; rw [if_pos g, epk]
  have er0 : (pall tp N).1 = false → sRead tp N (F 298) = (-20 - ((pall tp N).2 : Int), F 298) := fun g => by unfold sRead; rw [if_neg (by rw [g]; simp)]
  have HT : ∀ x : YR, x = pbody tp N (ykn tp N 0) (yke tp N (ysk tp N 0)) → (yrb x (pend tp N)).1 = true → ∀ F' : Nat → Nat → Int, F' 298 = (sLine tp N (F 298) (ykn tp N 0) (yke tp N (ysk tp N 0))).2 → F' 297 2 = ((if (sLine tp N (F 298) (ykn tp N 0) (yke tp N (ysk tp N 0))).1 < 0 then n else pushN n : Nat) : Int) → F' 297 7 = 0 → (∀ k, k ≠ 2 → k ≠ 7 → k ≠ 22 → k ≠ 23 → k ≠ 24 → k ≠ 25 → F' 297 k = F 297 k) → (∀ i, i < (if (sLine tp N (F 298) (ykn tp N 0) (yke tp N (ysk tp N 0))).1 < 0 then n else pushN n) → ∀ k, k < 134 → mR F' 299 i k = (if (sLine tp N (F 298) (ykn tp N 0) (yke tp N (ysk tp N 0))).1 < 0 then mR F 299 else pushR n (mR F 299) (F 298)) i k) → (∀ p, p ≠ 297 → p ≠ 298 → p ≠ 299 → p ≠ 311 → p ≠ 312 → F' p = F p) → Q (some (vi (sLine tp N (F 298) (ykn tp N 0) (yke tp N (ysk tp N 0))).1)) (Wd S L F' G h) := fun x ex g => by
    rw [ex, ← ea] at g
    rw [er1 g] at H
    exact H
  have HF : ∀ x : YR, x = pbody tp N (ykn tp N 0) (yke tp N (ysk tp N 0)) → (yrb x (pend tp N)).1 = false → ∀ F' : Nat → Nat → Int, F' 297 7 = 0 → (∀ k, k ≠ 7 → k ≠ 22 → k ≠ 23 → k ≠ 24 → k ≠ 25 → F' 297 k = F 297 k) → (∀ p, p ≠ 297 → p ≠ 312 → F' p = F p) → Q (some (vi ((-20) - ((yrb x (pend tp N)).2 : Int)))) (Wd S L F' G h) := fun x ex g F' q1 q2 q3 => by
    rw [ex, ← ea] at g ⊢
    rw [er0 g] at H
    dsimp only at H
    have hneg : (-20 - (((pall tp N).2 : Nat) : Int)) < 0 := by omega
    rw [if_pos hneg, if_pos hneg] at H
    exact H F' (q3 298 (by decide) (by decide)) (by rw [q2 2 (by decide) (by decide) (by decide) (by decide) (by decide)]; exact e2) q1 (fun k _ a2 a3 a4 a5 a6 => q2 k a2 a3 a4 a5 a6) (fun i hi k hk => by unfold mR; rw [q3 299 (by decide) (by decide)]) (fun p p1 _ _ _ p5 => q3 p p1 p5)
  have HX : ∀ x : YR, x = pbody tp N (ykn tp N 0) (yke tp N (ysk tp N 0)) → x.1 = true → R32 (sLine tp N (F 298) (ykn tp N 0) (yke tp N (ysk tp N 0))).1 := fun x ex g => (Yvd_sLine v pk.2.1 (by rw [← ex]; exact g)).2
  refine ⟨by omega, ?_⟩
  rw [if_pos (by omega)]
  by_cases k1' : ykn tp N 0 = 1
  · rw [if_pos (by omega)]
    refine K178 hh c4 (fun F9 c9 a9 fn9 => ⟨_, rfl, rfl, ?_⟩)
    have eb : (yline tp N (yke tp N (ysk tp N 0))).1 = pbody tp N (ykn tp N 0) (yke tp N (ysk tp N 0)) := by unfold pbody; rw [if_pos k1']
    refine Ktail (call := C181_0) hh hn e2 c9 (fn4.trans fn9) (HX _ eb) (fun g F1' Q1 z1 z2 z3 z4 => ?_) (HT _ eb) (HF _ eb)
    obtain ⟨b1, b2⟩ := line_ok g
    obtain ⟨d1, d2⟩ := a9 g
    refine K181 hh (by rw [z1]; exact v) b1 b2 (by rw [z2 25 (by decide) (by decide)]; exact d1) (fun k hk => by rw [z3]; exact d2 k hk) (fun x F' w1 w2 => z4 x F' ?_ w2)
    rw [← w1, z1]
    unfold sLine
    rw [if_pos k1']
  rw [if_neg (by omega)]
  by_cases k2' : ykn tp N 0 = 2
  · rw [if_pos (by omega)]
    refine K179 hh c4 (fun F9 c9 a9 fn9 => ⟨_, rfl, rfl, ?_⟩)
    have eb : pwrd tp N (yke tp N (ysk tp N 0)) = pbody tp N (ykn tp N 0) (yke tp N (ysk tp N 0)) := by unfold pbody; rw [if_neg k1', if_pos k2']
    refine Ktail (call := C183_0 (F9 297 24)) hh hn e2 c9 (fn4.trans fn9) (HX _ eb) (fun g F1' Q1 z1 z2 z3 z4 => ?_) (HT _ eb) (HF _ eb)
    obtain ⟨b1, b2⟩ := word_ok pk.2.1 g
    obtain ⟨d0, d1, d2⟩ := a9 g
    refine K183 hh (by rw [z1]; exact v) b1 b2 (by rw [z2 25 (by decide) (by decide)]; exact d1) (fun k hk => by rw [z3]; exact d2 k hk) (fun x F' w1 w2 => z4 x F' ?_ w2)
    rw [← w1, z1, d0]
    unfold sLine
    rw [if_neg k1', if_pos k2']
  rw [if_neg (by omega)]
  by_cases k3' : ykn tp N 0 = 3
  · rw [if_pos (by omega)]
    refine K176s hh c4 (fun F5 c5 v5 fq5 => ⟨_, rfl, rfl, ?_⟩)
    rw [yrb_t] at c5 v5
    dsimp only at v5
    refine K177s hh c5 (by decide) (fun F6 c6 e6 fq6 => ⟨_, rfl, rfl, ?_⟩)
    refine K175s hh c6 (by decide) (by decide) (fun F7 c7 v7 fq7 => ⟨_, rfl, rfl, ?_⟩)
    have eb : pfrm tp N (yke tp N (ysk tp N 0)) = pbody tp N (ykn tp N 0) (yke tp N (ysk tp N 0)) := by unfold pbody; rw [if_neg k1', if_neg k2', if_pos k3']
    refine Ktail (call := C162_0 (F5 297 24) (F7 297 24)) hh hn e2 (x := pfrm tp N (yke tp N (ysk tp N 0))) c7 (fn4.trans (fq5.fn.trans (fq6.fn.trans fq7.fn))) (HX _ eb) (fun g F1' Q1 z1 z2 z3 z4 => ?_) (HT _ eb) (HF _ eb)
    have g1 := yrb_1 g
    have g2 := yrb_1 g1.1
    have d1 := v5 g2.1
    have d2 := v7 g
    have u1 := pnum_v g2.1
    have u2 := chr_v g1.2
    refine K162 hh (by rw [z1]; exact v) (by omega) (by rw [d2]; omega) (fun x F' w1 w2 => z4 x F' ?_ w2)
    rw [← w1, z1, d1, d2]
    unfold sLine
    rw [if_neg k1', if_neg k2', if_pos k3']
  rw [if_neg (by omega), if_pos (by omega)]
  refine K175s hh c4 (by decide) (by decide) (fun F7 c7 v7 fq7 => ⟨_, rfl, rfl, ?_⟩)
  rw [yrb_t] at c7 v7
  have eb : pchr tp N 48 51 (yke tp N (ysk tp N 0)) = pbody tp N (ykn tp N 0) (yke tp N (ysk tp N 0)) := by unfold pbody; rw [if_neg k1', if_neg k2', if_neg k3']
  refine Ktail (call := C163_0 (F7 297 24)) hh hn e2 (x := pchr tp N 48 51 (yke tp N (ysk tp N 0))) c7 (fn4.trans fq7.fn) (HX _ eb) (fun g F1' Q1 z1 z2 z3 z4 => ?_) (HT _ eb) (HF _ eb)
  have d2 := v7 g
  have u2 := chr_v g
  dsimp only at d2
  refine K163 hh (by rw [z1]; exact v) (by omega) (fun x F' w1 w2 => z4 x F' ?_ w2)
  rw [← w1, z1, d2]
  unfold sLine
  rw [if_neg k1', if_neg k2', if_neg k3']
theorem pline_le : ∀ (m p n : Nat) (sg tm : Row), p ≤ N → (pline tp N m p n sg tm).1.2 ≤ N
  | 0, p, n, sg, tm, hp => (ysk_bd hp).2
  | m + 1, p, n, sg, tm, hp => by
    have hb := ysk_bd (tp := tp) hp
    unfold pline
    by_cases c1 : ysk tp N p < N ∧ 97 ≤ tp (ysk tp N p) ∧ tp (ysk tp N p) ≤ 108 ∧ n < 12
    · rw [if_pos c1]
      have h1 := pnum_le (tp := tp) (N := N) (p := ysk tp N p + 1) (by omega)
      by_cases c2 : (pnum tp N (ysk tp N p + 1)).1 = true
      · rw [if_pos c2]
        have h2 := pchr_le (tp := tp) (a := 44) (b := 44) h1
        by_cases c3 : (pchr tp N 44 44 (pnum tp N (ysk tp N p + 1)).2).1 = true
        · rw [if_pos c3]
          exact pline_le m _ _ _ _ h2
        · rw [if_neg c3]
          exact h2
      · rw [if_neg c2]
        exact h1
    · rw [if_neg c1]
      exact hb.2
theorem pwt_le {p : Nat} (hp : p ≤ N) : (pwt tp N p).2 ≤ N := by
  have hb := ysk_bd (tp := tp) hp
  have ok := pwl_ok (tp := tp) (N := N) 7 (ysk tp N p) 0 (fun _ => 0) hb.2 (by omega) (fun k hk => by omega)
  have h1 : (ywl tp N p).1 ≤ N := ok.2.1
  unfold pwt
  split
  · exact h1
  · exact h1
theorem pend_le {p : Nat} (hp : p ≤ N) : (pend tp N p).2 ≤ N := by
  have hb := ysk_bd (tp := tp) hp
  unfold pend
  split
  · exact hb.2
  · exact hb.2
theorem pbody_le {k : Int} {e : Nat} (he : e ≤ N) : (pbody tp N k e).2 ≤ N := by
  unfold pbody
  split
  · exact pline_le _ _ _ _ _ he
  split
  · exact yrb_le (pwh_le he) (pwt_le (pwh_le he))
  split
  · have h1 := pnum_le (tp := tp) (N := N) he
    have h2 : (yrb (pnum tp N e) (pchr tp N 47 47)).2 ≤ N := yrb_le h1 (pchr_le h1)
    exact yrb_le h2 (pchr_le h2)
  · exact pchr_le he
theorem pall_le : (pall tp N).2 ≤ N := yrb_le pkind_le (yrb_le (pbody_le pkind_le) (pend_le (pbody_le pkind_le)))
theorem R32_sRead {r : Row} (v : Yvd r) (hN : N ≤ 90) (hl : (pall tp N).2 ≤ N) : R32 (sRead tp N r).1 := by
  unfold sRead
  split
  · rename_i g
    exact (Yvd_sLine v (pkind_le (tp := tp) (N := N)) (pall_1 g).2.1).2
  · dsimp only; omega
theorem O818 {xs : Nat → Int} (I : Inv F G h xs) {x3 : Int} (hx : 0 ≤ x3 ∧ x3 + 6 ≤ (L : Int)) (hL : L ≤ 3072) (K : ∀ (F' G' : Nat → Nat → Int) (h' : Nat → Nat → Option Nat), Inv F' G' h' xs → C201_18 (x3 + 6) (Wd S L F' G' h') Q) : C201_818 x3 (Wd S L F G h) Q := by
  have hh := I.1
  obtain ⟨t, v⟩ := I.row
  have hR : ∀ k, R32 (F 9999 k) := I.r32
  refine T201_818 hh ?_
  obtain ⟨n, e2, c⟩ := I.2.1
  have hn : n ≤ 6 := by obtain ⟨q, -, c4⟩ := c.2.2.1; exact c4.2.1
  obtain ⟨p1, p2, p3, p4⟩ := I.2.2.2.1
  have ta : TA (F 302) (F 297 7).toNat F := ⟨by omega, by omega, fun k hk => p4 k (by omega)⟩
  have tb0 : TB (F 302) (F 297 7).toNat F := ⟨by omega, by omega, fun k hk => ⟨rfl, (p4 k (by omega)).2⟩⟩
  refine K86 hh ta c (fun F1 h1 r1 c1 e1 f1 g1 => ⟨_, _, _, rfl, rfl, r1, ?_⟩)
  have e7 : F1 297 = F 297 := f1 297 (by omega) (by decide) (by decide) (by decide) (by decide)
  have e8 : F1 298 = F 298 := f1 298 (by omega) (by decide) (by decide) (by decide) (by decide)
  have eR : mR F1 299 = mR F 299 := by unfold mR; rw [f1 299 (by omega) (by decide) (by decide) (by decide) (by decide)]
  have tb : TB (F 302) (F 297 7).toNat F1 := tb0.cong (by rw [e7]) (f1 302 (by omega) (by decide) (by decide) (by decide) (by decide))
  refine K185 r1 tb (by rw [e8]; exact v) hn (by rw [e7]; exact e2) (fun F2 m1 m2 m3 m4 m5 m6 => ⟨_, _, rfl, rfl, ?_⟩)
  rw [e8] at m1 m2 m5 ⊢
  rw [eR] at m5
  have hr := R32_sRead (tp := F 302) (N := (F 297 7).toNat) v (by omega) pall_le
  refine ⟨hr, hr, ?_⟩
  rw [if_pos rfl]
  refine K F2 G h1 (I.tell2 r1 c1 f1 g1 m1 m2 (by rw [m4 5 (by decide) (by decide) (by decide) (by decide) (by decide) (by decide), e7]) m5 (fun p hp q1 q2 => m6 p (by omega) (by omega) (by omega) q1 q2) ⟨by omega, by omega, ?_, fun k hk => by omega⟩)
  rw [m6 284 (by decide) (by decide) (by decide) (by decide) (by decide), e1, m3]
end READ2
