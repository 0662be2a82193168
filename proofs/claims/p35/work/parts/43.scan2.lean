/-! read: the smallest steps, one form -/
abbrev YR : Type := Bool × Nat
def yrb (x : YR) (f : Nat → YR) : YR := if x.1 = true then f x.2 else x
def pchr (tp : Nat → Int) (N : Nat) (a b : Int) (p : Nat) : YR := if ysk tp N p < N ∧ a ≤ tp (ysk tp N p) ∧ tp (ysk tp N p) ≤ b then (true, ysk tp N p + 1) else (false, ysk tp N p)
def pnum (tp : Nat → Int) (N : Nat) (p : Nat) : YR := if (ysk tp N p < N ∧ 48 ≤ tp (ysk tp N p) ∧ tp (ysk tp N p) ≤ 57) ∧ 1 ≤ ynv tp N (ysk tp N p) ∧ ynv tp N (ysk tp N p) ≤ 12 then (true, ynp tp N (ysk tp N p)) else (false, ysk tp N p)
def CS (tp : Nat → Int) (N : Nat) (F : Nat → Nat → Int) (x : YR) : Prop := TA tp N F ∧ x.2 ≤ N ∧ (x.1 = true → F 284 2 = (x.2 : Int) ∧ F 284 3 = -1) ∧ (x.1 = false → F 284 3 = (x.2 : Int) ∧ ∃ p : Nat, p ≤ N ∧ F 284 2 = (p : Int))
def FQ (F F' : Nat → Nat → Int) : Prop := (∀ k, k ≠ 22 → k ≠ 23 → k ≠ 24 → F' 297 k = F 297 k) ∧ (∀ q, q ≠ 297 → F' q = F q)
theorem FQ.rfl' {F : Nat → Nat → Int} : FQ F F := ⟨fun _ _ _ _ => rfl, fun _ _ => rfl⟩
theorem FQ.trans {A B C : Nat → Nat → Int} (h1 : FQ A B) (h2 : FQ B C) : FQ A C := ⟨fun k a b c => by rw [h2.1 k a b c, h1.1 k a b c], fun q a => by rw [h2.2 q a, h1.2 q a]⟩
theorem FQ.up {F : Nat → Nat → Int} {k : Nat} {v : Int} (hk : k = 22 ∨ k = 23 ∨ k = 24) : FQ F (am_up F 297 k v) := ⟨fun j a b c => by rw [up_at, if_neg (by omega)], fun q hq => up_out hq⟩
theorem pchr_t {tp : Nat → Int} {N : Nat} {a b : Int} {p : Nat} (c : yok tp N a b (ysk tp N p)) : pchr tp N a b p = (true, ysk tp N p + 1) := if_pos c
theorem pchr_f {tp : Nat → Int} {N : Nat} {a b : Int} {p : Nat} (c : ¬ yok tp N a b (ysk tp N p)) : pchr tp N a b p = (false, ysk tp N p) := if_neg c
theorem pnum_t {tp : Nat → Int} {N : Nat} {p : Nat} (c : ynk tp N (ysk tp N p)) : pnum tp N p = (true, ynp tp N (ysk tp N p)) := if_pos c
theorem pnum_f {tp : Nat → Int} {N : Nat} {p : Nat} (c : ¬ ynk tp N (ysk tp N p)) : pnum tp N p = (false, ysk tp N p) := if_neg c
theorem yrb_t {p : Nat} {f : Nat → YR} : yrb (true, p) f = f p := rfl
theorem yrb_f {p : Nat} {f : Nat → YR} : yrb (false, p) f = (false, p) := rfl
theorem ynp_le {tp : Nat → Int} {N q : Nat} (h : q < N) : ynp tp N q ≤ N := by
  unfold ynp
  split <;> omega
theorem flt_neg {q : Int} : flt (-1) q = q := by unfold flt; rw [if_neg (by decide)]
theorem flt_pos {f q : Int} (h : 0 ≤ f) : flt f q = f := by unfold flt; rw [if_pos h]
section SCAN2
variable {S L : Nat} {F G : Nat → Nat → Int} {h : Nat → Nat → Option Nat} {Q : Option V2 → W2 → Prop} {tp : Nat → Int} {N : Nat}
theorem CS.pos {x : YR} (c : CS tp N F x) : ∃ p : Nat, p ≤ N ∧ F 284 2 = (p : Int) ∧ (x.1 = true → p = x.2) := by
  obtain ⟨t, b, g, f⟩ := c
  cases e : x.1
  · obtain ⟨q1, p, q2, q3⟩ := f e
    exact ⟨p, q2, q3, fun k => by simp at k⟩
  · exact ⟨x.2, b, (g e).1, fun _ => rfl⟩
theorem CS.fl3 {x : YR} (c : CS tp N F x) : -1 ≤ F 284 3 ∧ F 284 3 ≤ 90 := by
  obtain ⟨t, b, g, f⟩ := c
  have := t.2.1
  cases e : x.1
  · have := (f e).1
    omega
  · have := (g e).2
    omega
theorem CS.mk {x : YR} {x' : YR} {F' : Nat → Nat → Int} {p p' : Nat} (c : CS tp N F x) (t : TA tp N F') (hp : x.1 = true → p = x.2) (h1 : F' 284 2 = (p' : Int)) (h2 : p' ≤ N) {y : YR} (ey : x' = yrb x (fun _ => y)) (ok : y.1 = true → y.2 = p' ∧ F' 284 3 = F 284 3) (no : y.1 = false → y.2 ≤ N ∧ F' 284 3 = flt (F 284 3) (y.2 : Int)) : CS tp N F' x' := by
  have hf := c.fl3
  obtain ⟨tt, b, g, f⟩ := c
  subst ey
  unfold yrb
  cases e : x.1
  · obtain ⟨q1, -⟩ := f e
    rw [if_neg (by simp)]
    have h3 : F' 284 3 = F 284 3 := by
      cases e2 : y.1
      · rw [(no e2).2, flt_pos (by omega)]
      · exact (ok e2).2
    exact ⟨t, b, fun k => by rw [e] at k; simp at k, fun _ => ⟨by rw [h3]; exact q1, p', h2, h1⟩⟩
  · obtain ⟨q1, q2⟩ := g e
    rw [if_pos rfl]
    cases e2 : y.1
    · obtain ⟨n1, n2⟩ := no e2
      rw [q2, flt_neg] at n2
      exact ⟨t, n1, fun k => by rw [e2] at k; simp at k, fun _ => ⟨n2, p', h2, h1⟩⟩
    · obtain ⟨n1, n2⟩ := ok e2
      exact ⟨t, by dsimp only; omega, fun _ => ⟨by dsimp only; rw [n1]; exact h1, by rw [n2]; exact q2⟩, fun k => by rw [e2] at k; simp at k⟩
theorem K59s (hh : RfH h) {x : YR} (c : CS tp N F x) {a : Int} (ra : R32 a) (H : ∀ F' : Nat → Nat → Int, CS tp N F' (yrb x (pchr tp N a a)) → FP F F' → Q none (Wd S L F' G h)) : C59_0 a (Wd S L F G h) Q := by
  obtain ⟨p, hp, ep, hx⟩ := c.pos
  have hf := c.fl3
  have hb := ysk_bd (tp := tp) hp
  refine K59 hh hp c.1 ep (by omega) ra (fun F' p' t ok no e2 hp' fp => H F' ?_ fp)
  refine c.mk (p := p) (y := pchr tp N a a p) t hx e2 hp' ?_ ?_ ?_
  · unfold yrb
    cases e : x.1
    · rfl
    · rw [hx e]
  · by_cases k : yok tp N a a (ysk tp N p)
    · rw [pchr_t k]; exact fun _ => ⟨(ok k).1.symm, (ok k).2⟩
    · rw [pchr_f k]; exact fun q => by simp at q
  · by_cases k : yok tp N a a (ysk tp N p)
    · rw [pchr_t k]; exact fun q => by simp at q
    · rw [pchr_f k]; exact fun _ => ⟨hb.2, (no k).2⟩
theorem K60s (hh : RfH h) {x : YR} (c : CS tp N F x) {a b : Int} (ra : 0 ≤ a ∧ a ≤ 9) (rb : 0 ≤ b ∧ b ≤ 9) (H : ∀ (F' : Nat → Nat → Int) (v : Int), CS tp N F' (yrb x (pchr tp N (48 + a) (48 + b))) → ((yrb x (pchr tp N (48 + a) (48 + b))).1 = true → v = tp (ysk tp N x.2) - 48 ∧ a ≤ v ∧ v ≤ b) → FP F F' → Q (some (vi v)) (Wd S L F' G h)) : C60_0 a b (Wd S L F G h) Q := by
  obtain ⟨p, hp, ep, hx⟩ := c.pos
  have hf := c.fl3
  have hb := ysk_bd (tp := tp) hp
  refine K60 hh hp c.1 ep (by omega) ra rb (fun F' p' v t ok no e2 hp' fp => H F' v ?_ (fun q => ?_) fp)
  · refine c.mk (p := p) (y := pchr tp N (48 + a) (48 + b) p) t hx e2 hp' ?_ ?_ ?_
    · unfold yrb
      cases e : x.1
      · rfl
      · rw [hx e]
    · by_cases k : yok tp N (48 + a) (48 + b) (ysk tp N p)
      · rw [pchr_t k]; exact fun _ => ⟨(ok k).1.symm, (ok k).2.1⟩
      · rw [pchr_f k]; exact fun q => by simp at q
    · by_cases k : yok tp N (48 + a) (48 + b) (ysk tp N p)
      · rw [pchr_t k]; exact fun q => by simp at q
      · rw [pchr_f k]; exact fun _ => ⟨hb.2, (no k).2.1⟩
  · unfold yrb at q
    cases e : x.1
    · rw [if_neg (by rw [e]; simp)] at q
      rw [e] at q; simp at q
    · rw [if_pos e, ← hx e] at q
      rw [← hx e]
      by_cases k : yok tp N (48 + a) (48 + b) (ysk tp N p)
      · have k2 := k.2
        have := (ok k).2.2
        omega
      · rw [pchr_f k] at q; simp at q
theorem K61s (hh : RfH h) {x : YR} (c : CS tp N F x) (H : ∀ (F' : Nat → Nat → Int) (v : Int), CS tp N F' (yrb x (pnum tp N)) → ((yrb x (pnum tp N)).1 = true → v = ynv tp N (ysk tp N x.2) ∧ 1 ≤ v ∧ v ≤ 12) → FP F F' → Q (some (vi v)) (Wd S L F' G h)) : C61_0 (Wd S L F G h) Q := by
  obtain ⟨p, hp, ep, hx⟩ := c.pos
  have hf := c.fl3
  have hb := ysk_bd (tp := tp) hp
  refine K61 hh hp c.1 ep (by omega) (fun F' p' v t ok no e2 hp' fp => H F' v ?_ (fun q => ?_) fp)
  · refine c.mk (p := p) (y := pnum tp N p) t hx e2 hp' ?_ ?_ ?_
    · unfold yrb
      cases e : x.1
      · rfl
      · rw [hx e]
    · by_cases k : ynk tp N (ysk tp N p)
      · rw [pnum_t k]; exact fun _ => ⟨(ok k).1.symm, (ok k).2.1⟩
      · rw [pnum_f k]; exact fun q => by simp at q
    · by_cases k : ynk tp N (ysk tp N p)
      · rw [pnum_t k]; exact fun q => by simp at q
      · rw [pnum_f k]; exact fun _ => ⟨hb.2, no k⟩
  · unfold yrb at q
    cases e : x.1
    · rw [if_neg (by rw [e]; simp)] at q
      rw [e] at q; simp at q
    · rw [if_pos e, ← hx e] at q
      rw [← hx e]
      by_cases k : ynk tp N (ysk tp N p)
      · have k2 := k.2
        have := (ok k).2.2
        omega
      · rw [pnum_f k] at q; simp at q
/-! the reference -/
def ych (tp : Nat → Int) (N q : Nat) : Int := if q < N then tp q else 0
end SCAN2
