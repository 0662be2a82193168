/-! read: a line of sounds -/
def pline (tp : Nat → Int) (N : Nat) : Nat → Nat → Nat → Row → Row → YR × Nat × Row × Row
  | 0, p, n, sg, tm => ((false, ysk tp N p), n, sg, tm)
  | m + 1, p, n, sg, tm =>
    if ysk tp N p < N ∧ 97 ≤ tp (ysk tp N p) ∧ tp (ysk tp N p) ≤ 108 ∧ n < 12 then
      (if (pnum tp N (ysk tp N p + 1)).1 = true then
        (if (pchr tp N 44 44 (pnum tp N (ysk tp N p + 1)).2).1 = true then
          pline tp N m (pchr tp N 44 44 (pnum tp N (ysk tp N p + 1)).2).2 (n + 1) (yu1 sg n (tp (ysk tp N p) - 97)) (yu1 tm n (ynv tp N (ysk tp N (ysk tp N p + 1))))
        else ((true, (pchr tp N 44 44 (pnum tp N (ysk tp N p + 1)).2).2), n + 1, yu1 sg n (tp (ysk tp N p) - 97), yu1 tm n (ynv tp N (ysk tp N (ysk tp N p + 1)))))
      else (pnum tp N (ysk tp N p + 1), n, sg, tm))
    else ((false, ysk tp N p), n, sg, tm)
def PG (n : Nat) (sg tm : Row) : Prop := ∀ k, k < n → 0 ≤ sg k ∧ sg k < 12 ∧ 1 ≤ tm k ∧ tm k ≤ 12
theorem pnum_v {tp : Nat → Int} {N p : Nat} (h : (pnum tp N p).1 = true) : 1 ≤ ynv tp N (ysk tp N p) ∧ ynv tp N (ysk tp N p) ≤ 12 := by
  by_cases c : ynk tp N (ysk tp N p)
  · exact c.2
  · rw [pnum_f c] at h; simp at h
theorem PG.up {n : Nat} {sg tm : Row} (g : PG n sg tm) {a b : Int} (ha : 0 ≤ a ∧ a < 12) (hb : 1 ≤ b ∧ b ≤ 12) : PG (n + 1) (yu1 sg n a) (yu1 tm n b) := fun k hk => by
  unfold yu1
  by_cases c : k = n
  · rw [if_pos c, if_pos c]; omega
  · rw [if_neg c, if_neg c]; exact g k (by omega)
theorem pline_ok {tp : Nat → Int} {N : Nat} : ∀ (m p n : Nat) (sg tm : Row), PG n sg tm → (pline tp N m p n sg tm).1.1 = true → 1 ≤ (pline tp N m p n sg tm).2.1 ∧ (pline tp N m p n sg tm).2.1 ≤ 12 ∧ PG (pline tp N m p n sg tm).2.1 (pline tp N m p n sg tm).2.2.1 (pline tp N m p n sg tm).2.2.2
  | 0, p, n, sg, tm, g, h => by simp [pline] at h
  | m + 1, p, n, sg, tm, g, h => by
    unfold pline at h ⊢
    by_cases c1 : ysk tp N p < N ∧ 97 ≤ tp (ysk tp N p) ∧ tp (ysk tp N p) ≤ 108 ∧ n < 12
    · rw [if_pos c1] at h ⊢
      by_cases c2 : (pnum tp N (ysk tp N p + 1)).1 = true
      · rw [if_pos c2] at h ⊢
        have g2 := g.up (a := tp (ysk tp N p) - 97) (by omega) (pnum_v c2)
        by_cases c3 : (pchr tp N 44 44 (pnum tp N (ysk tp N p + 1)).2).1 = true
        · rw [if_pos c3] at h ⊢
          exact pline_ok m _ _ _ _ g2 h
        · rw [if_neg c3]
          exact ⟨by dsimp only; omega, by dsimp only; omega, g2⟩
      · rw [if_neg c2] at h
        exact absurd h c2
    · rw [if_neg c1] at h
      simp at h
def FR (F F' : Nat → Nat → Int) : Prop := (∀ k, k ≠ 2 → k ≠ 3 → k ≠ 7 → F' 284 k = F 284 k) ∧ (∀ q, q ≠ 284 → q ≠ 286 → q ≠ 287 → F' q = F q)
theorem FR.rfl' {F : Nat → Nat → Int} : FR F F := ⟨fun _ _ _ _ => rfl, fun _ _ _ _ => rfl⟩
theorem FR.trans {A B C : Nat → Nat → Int} (h1 : FR A B) (h2 : FR B C) : FR A C := ⟨fun k a b c => by rw [h2.1 k a b c, h1.1 k a b c], fun q a b c => by rw [h2.2 q a b c, h1.2 q a b c]⟩
theorem FP.fr {F F' : Nat → Nat → Int} (h : FP F F') : FR F F' := ⟨fun k a b _ => h.1 k a b, fun q a _ _ => h.2 q a⟩
theorem FR.arr {F : Nat → Nat → Int} {q k : Nat} {v : Int} (hq : q = 286 ∨ q = 287) : FR F (am_up F q k v) := ⟨fun j a b c => by rw [up_out (by omega)], fun p a b c => up_out (by omega)⟩
theorem FR.cnt {F : Nat → Nat → Int} {k : Nat} {v : Int} (hk : k = 2 ∨ k = 3 ∨ k = 7) : FR F (am_up F 284 k v) := ⟨fun j a b c => by rw [up_at, if_neg (by omega)], fun p a b c => up_out a⟩
theorem TA.fr {tp : Nat → Int} {N : Nat} {F F' : Nat → Nat → Int} (t : TA tp N F) (e : FR F F') : TA tp N F' := t.cong (e.1 1 (by decide) (by decide) (by decide)) (e.2 285 (by decide) (by decide) (by decide))
def FN (F F' : Nat → Nat → Int) : Prop := (∀ k, k ≠ 22 → k ≠ 23 → k ≠ 24 → k ≠ 25 → F' 297 k = F 297 k) ∧ (∀ q, q ≠ 297 → q ≠ 312 → F' q = F q)
theorem FN.rfl' {F : Nat → Nat → Int} : FN F F := ⟨fun _ _ _ _ _ => rfl, fun _ _ _ => rfl⟩
theorem FN.trans {A B C : Nat → Nat → Int} (h1 : FN A B) (h2 : FN B C) : FN A C := ⟨fun k a b c d => by rw [h2.1 k a b c d, h1.1 k a b c d], fun q a b => by rw [h2.2 q a b, h1.2 q a b]⟩
theorem FQ.fn {F F' : Nat → Nat → Int} (h : FQ F F') : FN F F' := ⟨fun k a b c _ => h.1 k a b c, fun q a _ => h.2 q a⟩
theorem FN.arr {F : Nat → Nat → Int} {k : Nat} {v : Int} : FN F (am_up F 312 k v) := ⟨fun j a b c d => by rw [up_out (by decide)], fun p a b => up_out b⟩
theorem FN.cnt {F : Nat → Nat → Int} {k : Nat} {v : Int} (hk : k = 22 ∨ k = 23 ∨ k = 24 ∨ k = 25) : FN F (am_up F 297 k v) := ⟨fun j a b c d => by rw [up_at, if_neg (by omega)], fun p a b => up_out a⟩
section LINE
variable {S L : Nat} {F G : Nat → Nat → Int} {h : Nat → Nat → Option Nat} {Q : Option V2 → W2 → Prop} {tp : Nat → Int} {N : Nat}
def CA (F : Nat → Nat → Int) (n : Nat) (sg tm : Row) : Prop := F 284 7 = (n : Int) ∧ ∀ k, k < n → F 286 k = sg k ∧ F 287 k = tm k
def MA (F : Nat → Nat → Int) (n : Nat) (sg tm : Row) : Prop := F 297 25 = (n : Int) ∧ ∀ k, k < n → F 312 (2 * k) = sg k ∧ F 312 (2 * k + 1) = tm k
/-- an entry -/
theorem K55 (hh : RfH h) {p n : Nat} {sg tm : Row} (c : CS tp N F (true, p)) (hn : n ≤ 12) (a : CA F n sg tm)
    (H0 : ∀ F' : Nat → Nat → Int, ∀ x : YR, x.1 = false → (∀ m, pline tp N (m + 1) p n sg tm = (x, n, sg, tm)) → CS tp N F' x → FR F F' → Q none (Wd S L F' G h))
    (H1 : ∀ F' : Nat → Nat → Int, (ysk tp N p < N ∧ 97 ≤ tp (ysk tp N p) ∧ tp (ysk tp N p) ≤ 108 ∧ n < 12) → (pnum tp N (ysk tp N p + 1)).1 = true → CS tp N F' (true, (pnum tp N (ysk tp N p + 1)).2) → CA F' (n + 1) (yu1 sg n (tp (ysk tp N p) - 97)) (yu1 tm n (ynv tp N (ysk tp N (ysk tp N p + 1)))) → FR F F' → Q none (Wd S L F' G h)) : C55_0 (Wd S L F G h) Q := by
  have hp := c.2.1
  have hb := ysk_bd (tp := tp) hp
  dsimp only at hp hb
  have N90 := c.1.2.1
  obtain ⟨ep, ef⟩ := c.2.2.1 rfl
  refine T55_0 hh (K62 hh hp c.1 ep (fun F1 t1 e1 f1 a1 => ⟨_, rfl, rfl, ?_⟩))
  have e7 : F1 284 7 = (n : Int) := by rw [a1.1 7 (by decide) (by decide)]; exact a.1
  have bad : ¬ (ysk tp N p < N ∧ 97 ≤ tp (ysk tp N p) ∧ tp (ysk tp N p) ≤ 108 ∧ n < 12) → C64_0 (F1 284 2) (Wd S L F1 G h) (fun v w1 => ∃ (F4 : Nat → Nat → Int), v = none ∧ w1 = (Wd S L F4 G h) ∧ Q (none) (Wd S L F4 G h)) := fun no => by
    refine K64 hh (by omega) (fun F2 b1 b2 b3 => ⟨_, rfl, rfl, ?_⟩)
    refine H0 F2 (false, ysk tp N p) rfl (fun m => ?_) ⟨t1.fp b3, hb.2, fun k => by simp at k, fun _ => ⟨by rw [b2, f1, ef, flt_neg, e1], _, hb.2, by rw [b1]; exact e1⟩⟩ (a1.trans b3).fr
    show (if _ then _ else _) = _
    rw [if_neg no]
  refine ⟨by omega, ?_⟩
  by_cases c1 : 12 ≤ F1 284 7
  · rw [if_pos c1]
    exact bad (fun q => by omega)
  rw [if_neg c1]
  refine K63 hh hb.2 t1 e1 (by decide) (by decide) (fun ok => ⟨_, rfl, rfl, by decide, ?_⟩) (fun no => ⟨_, rfl, rfl, by decide, ?_⟩)
  · rw [if_neg (by decide)]
    obtain ⟨k1, k2, k3⟩ := ok
    have yes : ysk tp N p < N ∧ 97 ≤ tp (ysk tp N p) ∧ tp (ysk tp N p) ≤ 108 ∧ n < 12 := by omega
    have ei : (F1 284 2).toNat = ysk tp N p := by omega
    have en : (F1 284 7).toNat = n := by omega
    rw [ei, en, (t1.2.2 _ k1).1]
    refine ⟨by omega, by omega, ?_⟩
    have fr2 : FR F1 (am_up (am_up F1 286 n (tp (ysk tp N p) - 97)) 284 2 (F1 284 2 + 1)) := (FR.arr (Or.inl rfl)).trans (FR.cnt (Or.inl rfl))
    have c2 : CS tp N (am_up (am_up F1 286 n (tp (ysk tp N p) - 97)) 284 2 (F1 284 2 + 1)) (true, ysk tp N p + 1) := by
      refine ⟨t1.fr fr2, by dsimp only; omega, fun _ => ⟨by rw [up_at, if_pos rfl, e1]; dsimp only; omega, by rw [up_at, if_neg (by decide), up_out (by decide), f1, ef]⟩, fun k => by simp at k⟩
    refine K61s hh c2 (fun F3 v c3 v3 fp3 => ⟨_, _, rfl, rfl, ?_⟩)
    rw [yrb_t] at c3 v3
    have fr4 : FR F3 (am_up (am_up F3 287 n v) 284 7 (F3 284 7 + 1)) := (FR.arr (Or.inr rfl)).trans (FR.cnt (Or.inr (Or.inr rfl)))
    have fr : FR F (am_up (am_up F3 287 n v) 284 7 (F3 284 7 + 1)) := a1.fr.trans (fr2.trans (fp3.fr.trans fr4))
    have c4 : CS tp N (am_up (am_up F3 287 n v) 284 7 (F3 284 7 + 1)) (pnum tp N (ysk tp N p + 1)) := by
      obtain ⟨d1, d2, d3, d4⟩ := c3
      refine ⟨d1.fr fr4, d2, fun k => ?_, fun k => ?_⟩
      · rw [up_at, if_neg (by decide), up_out (by decide), up_at, if_neg (by decide), up_out (by decide)]; exact d3 k
      · rw [up_at, if_neg (by decide), up_out (by decide), up_at, if_neg (by decide), up_out (by decide)]; exact d4 k
    by_cases g : (pnum tp N (ysk tp N p + 1)).1 = true
    · refine H1 _ yes g ?_ ⟨?_, fun k hk => ?_⟩ fr
      · have : pnum tp N (ysk tp N p + 1) = (true, (pnum tp N (ysk tp N p + 1)).2) := by rw [← g]
        rw [← this]; exact c4
      · rw [up_at, if_pos rfl, fp3.1 7 (by decide) (by decide), up_at, if_neg (by decide), up_out (by decide), e7]; omega
      · rw [up_out (by decide), up_out (by decide), up_out (by decide), up_at, fp3.2 286 (by decide), fp3.2 287 (by decide), up_out (by decide), up_at, up_out (by decide), up_out (by decide), a1.2 286 (by decide), a1.2 287 (by decide)]
        unfold yu1
        by_cases z : k = n
        · rw [if_pos z, if_pos z, if_pos z, if_pos z]
          exact ⟨rfl, (v3 g).1⟩
        · rw [if_neg z, if_neg z, if_neg z, if_neg z]
          exact a.2 k (by omega)
    · have gf : (pnum tp N (ysk tp N p + 1)).1 = false := by
        cases z : (pnum tp N (ysk tp N p + 1)).1
        · rfl
        · exact absurd z g
      refine H0 _ _ gf (fun m => ?_) c4 fr
      show (if _ then _ else _) = _
      rw [if_pos yes, if_neg g]
  · rw [if_pos rfl]
    exact bad (fun q => no ⟨q.1, q.2.1, q.2.2.1⟩)
theorem K56 (hh : RfH h) {p : Nat} (c : CS tp N F (true, p)) (H : ∀ F' : Nat → Nat → Int, CS tp N F' (true, (pchr tp N 44 44 p).2) → FP F F' → Q (some (vi (if (pchr tp N 44 44 p).1 = true then 1 else 0))) (Wd S L F' G h)) : C56_0 (Wd S L F G h) Q := by
  have hp := c.2.1
  have hb := ysk_bd (tp := tp) hp
  dsimp only at hp hb
  obtain ⟨ep, ef⟩ := c.2.2.1 rfl
  refine T56_0 hh (K62 hh hp c.1 ep (fun F1 t1 e1 f1 a1 => ⟨_, rfl, rfl, ?_⟩))
  refine K63 hh hb.2 t1 e1 (by decide) (by decide) (fun ok => ⟨_, rfl, rfl, by decide, ?_⟩) (fun no => ⟨_, rfl, rfl, by decide, ?_⟩)
  · rw [if_neg (by decide)]
    have fp : FP F1 (am_up F1 284 2 (F1 284 2 + 1)) := FP.up2 (Or.inl rfl)
    rw [pchr_t ok] at H
    have := ok.1
    exact H _ ⟨t1.fp fp, by dsimp only; omega, fun _ => ⟨by rw [up_at, if_pos rfl, e1]; dsimp only; omega, by rw [up_at, if_neg (by decide), f1, ef]⟩, fun k => by simp at k⟩ (a1.trans fp)
  · rw [if_pos rfl]
    rw [pchr_f no] at H
    exact H F1 ⟨t1, hb.2, fun _ => ⟨e1, by rw [f1, ef]⟩, fun k => by simp at k⟩ a1
theorem L54z (hh : RfH h) {x : Int} (rx : R32 x) (H : Q none (Wd S L F G h)) : C54_4 0 x (Wd S L F G h) Q := by
  refine T54_4 hh ⟨rx, ?_⟩
  split
  · exact H
  · refine ⟨by decide, ?_⟩
    rw [if_pos rfl]
    exact H
theorem L54 (hh : RfH h) : ∀ (m n p : Nat) (sg tm : Row) (F : Nat → Nat → Int), n + m = 13 → n ≤ 12 → CS tp N F (true, p) → CA F n sg tm → (∀ F' : Nat → Nat → Int, CS tp N F' (pline tp N m p n sg tm).1 → ((pline tp N m p n sg tm).1.1 = true → CA F' (pline tp N m p n sg tm).2.1 (pline tp N m p n sg tm).2.2.1 (pline tp N m p n sg tm).2.2.2) → FR F F' → Q none (Wd S L F' G h)) → C54_4 1 (n : Int) (Wd S L F G h) Q
  | 0, n, p, sg, tm, F, e, hn, c, a, H => by omega
  | m + 1, n, p, sg, tm, F, e, hn, c, a, H => by
    refine T54_4 hh ⟨by omega, ?_⟩
    rw [if_neg (by omega)]
    refine ⟨by decide, ?_⟩
    rw [if_neg (by decide)]
    refine K55 hh c hn a (fun F1 x hx ex c1 fr1 => ⟨_, rfl, rfl, ?_⟩) (fun F1 yes g c1 a1 fr1 => ⟨_, rfl, rfl, ?_⟩)
    · have h3 := (c1.2.2.2 hx).1
      have := c1.2.1
      have := c1.1.2.1
      refine ⟨by omega, ?_⟩
      rw [if_pos (by omega)]
      refine L54z hh (by omega) (H F1 (by rw [ex]; exact c1) (fun k => by rw [ex] at k; dsimp only at k; rw [hx] at k; simp at k) fr1)
    · have h3 := (c1.2.2.1 rfl).2
      refine ⟨by omega, ?_⟩
      rw [if_neg (by omega)]
      refine K56 hh c1 (fun F2 c2 fp2 => ⟨_, _, rfl, rfl, ?_⟩)
      have ca2 : CA F2 (n + 1) (yu1 sg n (tp (ysk tp N p) - 97)) (yu1 tm n (ynv tp N (ysk tp N (ysk tp N p + 1)))) := ⟨by rw [fp2.1 7 (by decide) (by decide)]; exact a1.1, fun k hk => by rw [fp2.2 286 (by decide), fp2.2 287 (by decide)]; exact a1.2 k hk⟩
      have fr2 := fr1.trans fp2.fr
      by_cases g2 : (pchr tp N 44 44 (pnum tp N (ysk tp N p + 1)).2).1 = true
      · have el : pline tp N (m + 1) p n sg tm = pline tp N m (pchr tp N 44 44 (pnum tp N (ysk tp N p + 1)).2).2 (n + 1) (yu1 sg n (tp (ysk tp N p) - 97)) (yu1 tm n (ynv tp N (ysk tp N (ysk tp N p + 1)))) := by
          show (if _ then _ else _) = _
          rw [if_pos yes, if_pos g, if_pos g2]
        rw [el] at H
        rw [if_pos g2]
        refine ⟨by decide, ?_⟩
        rw [if_neg (by decide)]
        exact L54 hh m (n + 1) _ _ _ F2 (by omega) (by omega) c2 ca2 (fun F' q1 q2 q3 => H F' q1 q2 (fr2.trans q3))
      · have el : pline tp N (m + 1) p n sg tm = ((true, (pchr tp N 44 44 (pnum tp N (ysk tp N p + 1)).2).2), n + 1, yu1 sg n (tp (ysk tp N p) - 97), yu1 tm n (ynv tp N (ysk tp N (ysk tp N p + 1)))) := by
          show (if _ then _ else _) = _
          rw [if_pos yes, if_pos g, if_neg g2]
        rw [el] at H
        rw [if_neg g2]
        refine ⟨by decide, ?_⟩
        rw [if_pos rfl]
        exact L54z hh (by omega) (H F2 c2 (fun _ => ca2) fr2)
def yline (tp : Nat → Int) (N p : Nat) : YR × Nat × Row × Row := pline tp N 13 p 0 (fun _ => 0) (fun _ => 0)
theorem K54 (hh : RfH h) {p : Nat} (c : CS tp N F (true, p)) (e7 : F 284 7 = 0) (H : ∀ F' : Nat → Nat → Int, CS tp N F' (yline tp N p).1 → ((yline tp N p).1.1 = true → CA F' (yline tp N p).2.1 (yline tp N p).2.2.1 (yline tp N p).2.2.2) → FR F F' → Q none (Wd S L F' G h)) : C54_0 (Wd S L F G h) Q :=
  T54_0 hh (L54 hh 13 0 p _ _ F (by omega) (by omega) c ⟨e7, fun k hk => by omega⟩ H)
/-! the reference -/
end LINE
