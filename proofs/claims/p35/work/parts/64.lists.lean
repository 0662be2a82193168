/-! lists: words that look alike, the greatest of them guessed -/
def lkc (r : Row) (j k : Nat) : Int := if wlk r k = wlk r j then 1 else 0
theorem ybc_dec : ∀ s : Fin 256, ybc s.val = ysm (fun k => if s.val.testBit k = true then 1 else 0) 8 := by decide +kernel
theorem ysm_more {f : Nat → Int} {n : Nat} (h : ∀ k, n ≤ k → f k = 0) : ∀ d, ysm f (n + d) = ysm f n
  | 0 => rfl
  | d + 1 => by
    have ih := ysm_more h d
    show ysm f (n + d) + f (n + d) = ysm f n
    rw [ih, h (n + d) (by omega)]
    omega
theorem ybc_sum (P : Nat → Bool) {n : Nat} (hn : n ≤ 8) : ybc (yset P n) = ysm (fun k => if P k = true then 1 else 0) n := by
  have h := ybc_dec ⟨yset P n, yset_256 P hn⟩
  dsimp only at h
  rw [h]
  have e : ysm (fun k => if (yset P n).testBit k = true then (1 : Int) else 0) (n + (8 - n)) = ysm (fun k => if (yset P n).testBit k = true then (1 : Int) else 0) n := ysm_more (fun k hk => by
    have : (yset P n).testBit k = false := Nat.testBit_lt_two_pow (Nat.lt_of_lt_of_le (yset_lt P n) (Nat.pow_le_pow_right (by decide) hk))
    rw [this]
    rfl) _
  rw [show n + (8 - n) = 8 by omega] at e
  rw [e]
  exact ysm_cong (fun k hk => by rw [yset_bit P hk])
theorem wsn_sum {r : Row} (v : Yvd r) (j : Nat) : ybc (wsn r j) = ysm (lkc r j) (ywn r) := by
  unfold wsn
  rw [ybc_sum _ (ywn_le v)]
  exact ysm_cong (fun k hk => by
    unfold yhas lkc
    by_cases c : wlk r k = wlk r j
    · rw [if_pos c, if_pos (by simp [c])]
    · rw [if_neg c, if_neg (by simp [c])])
theorem wle_gfst (r : Row) (j : Nat) : wle r j = j ↔ gfst (wlk r) j := by
  obtain ⟨a1, a2, a3⟩ := wle_ok r j
  constructor
  · intro e k hk
    exact a3 k (by omega)
  · intro g
    rcases Nat.lt_or_ge (wle r j) j with q | q
    · exact absurd a2 (g _ q)
    · omega
theorem wle_wle (r : Row) (j : Nat) : wle r (wle r j) = wle r j := (wle_eq r _ _).mpr (wle_ok r j).2.1
theorem sW0 {r : Row} {j : Nat} (hj : j < ywn r) : sWord r (j : Int) 0 = wwt r j := by
  have e := wwt_in hj
  unfold sWord; rw [if_pos (by unfold ywn at hj; omega), if_pos rfl, e]; rfl
theorem sW1 {r : Row} {j : Nat} (hj : j < ywn r) : sWord r (j : Int) 1 = r (71 + 8 * j) := by
  unfold sWord; rw [if_pos (by unfold ywn at hj; omega)]; rfl
theorem sW2 {r : Row} {j : Nat} (hj : j < ywn r) : sWord r (j : Int) 2 = ((wlk r j).length : Int) := by
  unfold sWord; rw [if_pos (by unfold ywn at hj; omega)]; rfl
theorem sW3 {r : Row} {j : Nat} (hj : j < ywn r) : sWord r (j : Int) 3 = ybc (wsn r j) := by
  unfold sWord; rw [if_pos (by unfold ywn at hj; omega)]; rfl
theorem sW4 {r : Row} {j : Nat} (hj : j < ywn r) : sWord r (j : Int) 4 = (wle r j : Int) := by
  unfold sWord; rw [if_pos (by unfold ywn at hj; omega)]; rfl
theorem sW5 {r : Row} (j : Int) : sWord r j 5 = -1 := by
  unfold sWord; split <;> rfl
theorem ysm_le {f g : Nat → Int} : ∀ {n : Nat}, (∀ k, k < n → f k ≤ g k) → ysm f n ≤ ysm g n
  | 0, _ => Int.le_refl _
  | n + 1, h => by
    have h1 := ysm_le (f := f) (g := g) (n := n) (fun k hk => h k (by omega))
    have h2 := h n (by omega)
    rw [ysm_s, ysm_s]
    omega
section LISTS
variable {S L : Nat} {G : Nat → Nat → Int} {h : Nat → Nat → Option Nat} {Q : Option V2 → W2 → Prop} {r : Row} {n : Nat} {R : Nat → Row} {F : Nat → Nat → Int}
theorem l119_89 (o : Oy F h r n R) {j : Nat} (hj : j < ywn r) {x2 x3 : Int} (K : C119_60 (ywn r : Int) (x2 + gM (wlk r) (wwt r) (ywn r) j) (x3 + wwt r j) ((j : Int) + 1) (Wd S L F G h) Q) : ∀ (m k : Nat) (x7 x8 : Int), k + m = ywn r → x7 = ysm (lkc r j) k → x8 = gmx (wlk r) (wwt r) (wlk r j) k → C119_89 (ywn r : Int) x2 x3 (j : Int) (wle r j : Int) x7 x8 (k : Int) (Wd S L F G h) Q
  | 0, k, x7, x8, e, e7, e8 => by
    have v := o.v
    have hw8 := ywn_le v
    have hk : k = ywn r := by omega
    subst hk
    obtain ⟨a1, a2, a3⟩ := wle_ok r j
    have hm : wle r j < ywn r := by omega
    have rW : ∀ i w, R32 (sWord r i w) := fun i w => R32_sWord v i w
    have hp := v.wp j (by unfold ywn at hj; omega)
    have hz := v.sz j (by omega)
    have hl1 : (wlk r j).length ≤ (r (71 + 8 * j)).toNat := ylk_len _ _
    have hl2 : wlk r j ≠ [] := ylk_ne (by omega)
    have hl3 : 1 ≤ (wlk r j).length := by
      rcases Nat.eq_zero_or_pos (wlk r j).length with q | q
      · exact absurd (List.eq_nil_of_length_eq_zero q) hl2
      · exact q
    have h3 : sWord r (j : Int) 3 = x7 := by rw [sW3 hj, wsn_sum v, e7]
    have r7 : R32 x7 := by rw [← h3]; exact rW _ _
    have q2 : sWord r (wle r j : Int) 2 = sWord r (j : Int) 2 := by rw [sW2 hm, sW2 hj, a2]
    have q4 : sWord r (wle r j : Int) 4 = (wle r j : Int) := by rw [sW4 hm, wle_wle]
    have g2 : sWord r (j : Int) 2 = ((wlk r j).length : Int) := sW2 hj
    have g1 : sWord r (j : Int) 1 = r (71 + 8 * j) := sW1 hj
    refine T119_89 o.hh ⟨by omega, by omega, ?_⟩
    rw [if_pos (Int.le_refl _)]
    refine ⟨by omega, by omega, by omega, by omega, ?_⟩
    refine k82 o (by omega) (by decide) ⟨rW _ _, q4, ?_⟩
    refine k82 o (by omega) (by decide) ?_
    refine k82 o (by omega) (by decide) ⟨rW _ _, rW _ _, q2, ?_⟩
    refine k82 o (by omega) (by decide) ⟨rW _ _, r7, h3, ?_⟩
    refine k82 o (by omega) (by decide) ⟨rW _ _, by omega, ?_⟩
    refine k82 o (by omega) (by decide) ?_
    refine k82 o (by omega) (by decide) ⟨rW _ _, rW _ _, by omega, ?_⟩
    refine k82 o (by omega) (by decide) ⟨rW _ _, sW5 _, ?_⟩
    by_cases c : wle r j = j
    · have gm : gM (wlk r) (wwt r) (ywn r) j = x8 := by unfold gM; rw [if_pos ((wle_gfst r j).mp c), e8]
      rw [if_pos (by omega)]
      refine k82 o (by omega) (by decide) ?_
      rw [sW0 hj, ← gm]
      exact K
    · have gm : gM (wlk r) (wwt r) (ywn r) j = 0 := by unfold gM; rw [if_neg (fun q => c ((wle_gfst r j).mpr q))]
      rw [if_neg (by omega)]
      refine k82 o (by omega) (by decide) ?_
      rw [sW0 hj, ← gm]
      exact K
  | m + 1, k, x7, x8, e, e7, e8 => by
    have v := o.v
    have hw8 := ywn_le v
    have hk : k < ywn r := by omega
    have rW : ∀ i w, R32 (sWord r i w) := fun i w => R32_sWord v i w
    have hb := wwt_bd v hk
    have a1 := (wle_ok r j).1
    have a2 := (wle_ok r k).1
    have g0 : 0 ≤ gmx (wlk r) (wwt r) (wlk r j) k := gmx_nn (fun i => by have := wwt_pos v i; omega) _ _
    have g9 : ∀ i, i ≤ ywn r → gmx (wlk r) (wwt r) (wlk r j) i ≤ 9 := fun i => by
      induction i with
      | zero => intro _; show (0 : Int) ≤ 9; decide
      | succ i ih =>
        intro hi
        have ih := ih (by omega)
        have hb := wwt_bd v (j := i) (by omega)
        show (if wlk r i = wlk r j then (if gmx (wlk r) (wwt r) (wlk r j) i < wwt r i then wwt r i else gmx (wlk r) (wwt r) (wlk r j) i) else gmx (wlk r) (wwt r) (wlk r j) i) ≤ 9
        repeat' split
        all_goals omega
    have g9k := g9 k (by omega)
    have es7 : ysm (lkc r j) (k + 1) = ysm (lkc r j) k + lkc r j k := rfl
    have es8 : gmx (wlk r) (wwt r) (wlk r j) (k + 1) = if wlk r k = wlk r j then (if gmx (wlk r) (wwt r) (wlk r j) k < wwt r k then wwt r k else gmx (wlk r) (wwt r) (wlk r j) k) else gmx (wlk r) (wwt r) (wlk r j) k := rfl
    have ih := fun y7 y8 => l119_89 o hj K m (k + 1) y7 y8 (by omega)
    rw [show ((k + 1 : Nat) : Int) = (k : Int) + 1 by omega] at ih
    refine T119_89 o.hh ⟨by omega, by omega, ?_⟩
    rw [if_neg (by omega)]
    refine k82 o (by omega) (by decide) ?_
    rw [sW4 hk]
    refine ⟨by omega, by omega, ?_⟩
    by_cases c : wlk r k = wlk r j
    · have ce : wle r k = wle r j := (wle_eq r k j).mpr c
      rw [if_pos (by omega)]
      refine k82 o (by omega) (by decide) ?_
      rw [sW4 hk]
      refine ⟨by omega, ?_⟩
      rw [if_pos (by omega)]
      refine k82 o (by omega) (by decide) ?_
      rw [sW0 hk]
      refine ⟨by omega, by omega, ?_⟩
      by_cases d : wwt r k ≤ x8
      · rw [if_pos d]
        exact ih _ _ (by rw [es7, e7]; unfold lkc; rw [if_pos c]) (by rw [es8, if_pos c, if_neg (by omega)]; exact e8)
      · rw [if_neg d]
        refine k82 o (by omega) (by decide) ?_
        rw [sW0 hk]
        exact ih _ _ (by rw [es7, e7]; unfold lkc; rw [if_pos c]) (by rw [es8, if_pos c, if_pos (by omega)])
    · have ce : wle r k ≠ wle r j := fun q => c ((wle_eq r k j).mp q)
      rw [if_neg (by omega)]
      refine k82 o (by omega) (by decide) ?_
      rw [sW4 hk]
      refine ⟨by omega, ?_⟩
      rw [if_neg (by omega)]
      exact ih _ _ (by rw [es7, e7]; unfold lkc; rw [if_neg c]) (by rw [es8, if_neg c]; exact e8)
theorem l119_60 (o : Oy F h r n R) (K : Q (some (vi 1)) (Wd S L F G h)) : ∀ (m j : Nat) (x2 x3 : Int), j + m = ywn r → x2 = ysm (gM (wlk r) (wwt r) (ywn r)) j → x3 = ysm (wwt r) j → C119_60 (ywn r : Int) x2 x3 (j : Int) (Wd S L F G h) Q
  | 0, j, x2, x3, e, e2, e3 => by
    have v := o.v
    have hw := v.w
    have hw8 := ywn_le v
    have hj : j = ywn r := by omega
    subst hj
    have h1 : r 1 = (ywn r : Int) := by unfold ywn; omega
    refine T119_60 o.hh ⟨by omega, by omega, ?_⟩
    rw [if_pos (Int.le_refl _)]
    by_cases c : (ywn r : Int) = 0
    · rw [if_pos c]
      have eg : sGuess r 0 = -4 := by unfold sGuess; rw [if_pos (Or.inl rfl), if_pos (by omega)]
      refine k84 o (by decide) ⟨by rw [eg]; decide, eg, K⟩
    · rw [if_neg c]
      have hn1 : 1 ≤ ywn r := by omega
      have hB := gM_bd v
      have hA := wwt_sum v hn1
      have hp : ∀ k, 0 < wwt r k := wwt_pos v
      have BM : ysm (gB (wlk r) (wwt r) (ywn r)) (ywn r) = ysm (gM (wlk r) (wwt r) (ywn r)) (ywn r) := by rw [gM_sum hp, gB_sum hp]
      have B1 : 1 ≤ ysm (gB (wlk r) (wwt r) (ywn r)) (ywn r) := by
        rw [BM]
        have gn : ∀ i, 0 ≤ gM (wlk r) (wwt r) (ywn r) i := fun i => by
          unfold gM
          split
          · exact gmx_nn (fun k => by have := hp k; omega) _ _
          · exact Int.le_refl _
        have g := ysm_ge (f := gM (wlk r) (wwt r) (ywn r)) (n := ywn r) (i := 0) (fun i _ => gn i) (by omega)
        have g0 : gM (wlk r) (wwt r) (ywn r) 0 = gmx (wlk r) (wwt r) (wlk r 0) (ywn r) := by unfold gM; rw [if_pos (fun k hk => absurd hk (Nat.not_lt_zero _))]
        have g1 := gmx_ge (e := wlk r) (w := wwt r) (c := wlk r 0) (n := ywn r) (k := 0) (by omega) rfl
        have := hp 0
        omega
      have BA : ysm (gB (wlk r) (wwt r) (ywn r)) (ywn r) ≤ ysm (wwt r) (ywn r) := ysm_le (fun k hk => by
        have := hp k
        unfold gB
        split <;> omega)
      have eg : ∀ w, w = 0 ∨ w = 1 → sGuess r w = yfr (ysm (gB (wlk r) (wwt r) (ywn r)) (ywn r)) (ysm (wwt r) (ywn r)) w := fun w hw => by unfold sGuess; rw [if_pos hw, if_neg (by omega)]
      obtain ⟨g, g1, g2, g3, g4, g5, g6⟩ := yfr_split (a := ysm (gB (wlk r) (wwt r) (ywn r)) (ywn r)) (b := ysm (wwt r) (ywn r)) (by omega) (by omega)
      rw [← BM] at e2
      refine k84 o (by decide) ?_
      refine k84 o (by decide) ?_
      rw [eg 0 (Or.inl rfl), eg 1 (Or.inr rfl), e2, e3]
      generalize ysm (gB (wlk r) (wwt r) (ywn r)) (ywn r) = B at *
      generalize ysm (wwt r) (ywn r) = A at *
      generalize yfr B A 0 = p at *
      generalize yfr B A 1 = q at *
      have p1 : 1 ≤ p := by
        rcases Int.lt_or_le p 1 with c | c
        · have : p = 0 := by omega
          rw [this] at g2; omega
        · exact c
      have pq : p ≤ q := by
        refine Int.le_of_mul_le_mul_right (a := g) ?_ (by omega)
        rw [← g2, ← g3]
        exact BA
      have pl := le_t (e := p) g1 g4
      have ql := le_t (e := q) g1 (by omega)
      have z1 := ymul_bd (x := p) (y := A) (A := 72) (B := 72) (by omega) (by omega)
      have z2 := ymul_bd (x := q) (y := B) (A := 72) (B := 72) (by omega) (by omega)
      have ee : p * A = q * B := by rw [g2, g3]; ac_rfl
      refine ⟨by omega, by omega, by omega, by omega, ?_⟩
      refine k114 o.hh (by omega) (by omega) ?_
      rw [g6]
      exact ⟨by decide, rfl, by omega, by omega, ee, K⟩
  | m + 1, j, x2, x3, e, e2, e3 => by
    have v := o.v
    have hw8 := ywn_le v
    have hj : j < ywn r := by omega
    have es2 : ysm (gM (wlk r) (wwt r) (ywn r)) (j + 1) = ysm (gM (wlk r) (wwt r) (ywn r)) j + gM (wlk r) (wwt r) (ywn r) j := rfl
    have es3 : ysm (wwt r) (j + 1) = ysm (wwt r) j + wwt r j := rfl
    have ih := l119_60 o K m (j + 1) (x2 + gM (wlk r) (wwt r) (ywn r) j) (x3 + wwt r j) (by omega) (by rw [es2, e2]) (by rw [es3, e3])
    rw [show ((j + 1 : Nat) : Int) = (j : Int) + 1 by omega] at ih
    refine T119_60 o.hh ⟨by omega, by omega, ?_⟩
    rw [if_neg (by omega)]
    refine k82 o (by omega) (by decide) ?_
    rw [sW4 hj]
    exact l119_89 o hj ih (ywn r) 0 0 0 (by omega) rfl rfl
theorem k119 (o : Oy F h r n R) {P : Int → (Nat → Nat → Int) → Prop} (H : ∀ F', Oy F' h r n R → Ob F F' → P 1 F') : C119_0 (Wd S L F G h) (fun v w1 => ∃ (x : Int) (F' : Nat → Nat → Int), v = some (vi x) ∧ w1 = (Wd S L F' G h) ∧ P x F') := by
  have v := o.v
  have hw := v.w
  have h1 : r 1 = (ywn r : Int) := by unfold ywn; omega
  have a1 : sWord r (r 1) 0 = -1 := by unfold sWord; rw [if_neg (by omega)]
  have a2 : sWord r (-1) 0 = -1 := by unfold sWord; rw [if_neg (by omega)]
  have a3 : sLetter r (r 1) 0 = -1 := by unfold sLetter; rw [if_neg (by omega)]
  have a4 : sGuess r 2 = -1 := by unfold sGuess; rw [if_neg (by omega)]
  refine T119_0 o.hh ?_
  refine k75 o (by decide) (fun F1 o b1 => ?_)
  have rc : sCount r (n : Int) 9 = r 1 := rfl
  rw [rc]
  refine k82 o (by omega) (by decide) ⟨by rw [a1]; decide, a1, ?_⟩
  refine k82 o (by decide) (by decide) ⟨by rw [a2]; decide, a2, ?_⟩
  refine k83 o (by omega) (by decide) ⟨by rw [a3]; decide, a3, ?_⟩
  refine k84 o (by decide) ⟨by rw [a4]; decide, a4, ?_⟩
  rw [h1]
  exact l119_60 o ⟨_, F1, rfl, rfl, H F1 o b1⟩ (ywn r) 0 0 0 (by omega) rfl rfl
end LISTS
