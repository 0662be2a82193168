/-! words: a word told by two cells -/
theorem shr_nn (a b : Int32) (ha : 0 ≤ a.toInt) : 0 ≤ (a >>> b).toInt := by
  show 0 ≤ (BitVec.sshiftRight' a.toBitVec (b.toBitVec.smod 32)).toInt
  rw [BitVec.toInt_sshiftRight', Int.shiftRight_eq_div_pow]
  exact Int.ediv_nonneg ha (Int.natCast_nonneg _)
def wsh (y : Int) (i : Int) : Int := (Int32.ofInt y >>> (Int32.ofInt (3 * i) &&& 31)).toInt
theorem wsh_bd {y : Int} (hy : 0 ≤ y ∧ y ≤ 2147483647) (i : Int) : 0 ≤ wsh y i ∧ wsh y i ≤ 2147483647 := by
  have h1 := r32_toInt (Int32.ofInt y >>> (Int32.ofInt (3 * i) &&& 31))
  have h2 := shr_nn (Int32.ofInt y) (Int32.ofInt (3 * i) &&& 31) (by rw [y_ti (by omega)]; exact hy.1)
  unfold wsh
  exact ⟨h2, h1.2⟩
def wg (x y : Int) (i : Nat) : Int := if x % 3 = 0 then wsh y (i : Int) % 12 else wsh y (i : Int) % 3
theorem wg_bd {y : Int} (hy : 0 ≤ y ∧ y ≤ 2147483647) (x : Int) (i : Nat) : 0 ≤ wg x y i ∧ wg x y i < 12 := by
  have := wsh_bd hy (i : Int)
  unfold wg
  split <;> omega
def Tx (x y : Int) (tp : Nat → Int) (k : Nat) : Prop := tp 0 = 119 ∧ tp 1 = 111 ∧ tp 2 = 114 ∧ tp 3 = 100 ∧ tp 4 = 49 + x / 6 % 9 ∧ tp 5 = 58 ∧ ∀ i, i < k → tp (6 + i) = 97 + wg x y i
theorem pwl_go {tp : Nat → Int} {n : Nat} {g : Nat → Int} (hg : ∀ i, i < n → tp (6 + i) = 97 + g i ∧ 0 ≤ g i ∧ g i < 12) (hn : n ≤ 6) : ∀ (m i : Nat) (lt : Row), n < i + m → i ≤ n → (∀ k, k < i → lt k = g k) → (pwl tp (6 + n) m (6 + i) i lt).1 = 6 + n ∧ (pwl tp (6 + n) m (6 + i) i lt).2.1 = n ∧ ∀ k, k < n → (pwl tp (6 + n) m (6 + i) i lt).2.2 k = g k
  | 0, i, lt, h1, h2, _ => by omega
  | m + 1, i, lt, h1, h2, h3 => by
    have es : pwl tp (6 + n) (m + 1) (6 + i) i lt = if 6 + i < 6 + n ∧ 97 ≤ tp (6 + i) ∧ tp (6 + i) ≤ 108 ∧ i < 6 then pwl tp (6 + n) m (6 + i + 1) (i + 1) (yu1 lt i (tp (6 + i) - 97)) else (6 + i, i, lt) := rfl
    rw [es]
    by_cases c : i < n
    · obtain ⟨g1, g2, g3⟩ := hg i c
      rw [if_pos (by omega)]
      have := pwl_go hg hn m (i + 1) (yu1 lt i (tp (6 + i) - 97)) (by omega) (by omega) (fun k hk => by
        unfold yu1
        by_cases q : k = i
        · rw [if_pos q, q]; omega
        · rw [if_neg q]; exact h3 k (by omega))
      exact this
    · have hi : i = n := by omega
      subst hi
      rw [if_neg (by omega)]
      exact ⟨rfl, rfl, h3⟩
theorem pke_s {tp : Nat → Int} {N m p : Nat} (c : p < N ∧ 97 ≤ tp p ∧ tp p ≤ 122) : pke tp N (m + 1) p = pke tp N m (p + 1) := by
  have e : pke tp N (m + 1) p = if p < N ∧ 97 ≤ tp p ∧ tp p ≤ 122 then pke tp N m (p + 1) else p := rfl
  rw [e, if_pos c]
theorem pke_e {tp : Nat → Int} {N m p : Nat} (c : ¬ (p < N ∧ 97 ≤ tp p ∧ tp p ≤ 122)) : pke tp N (m + 1) p = p := by
  have e : pke tp N (m + 1) p = if p < N ∧ 97 ≤ tp p ∧ tp p ≤ 122 then pke tp N m (p + 1) else p := rfl
  rw [e, if_neg c]
theorem read_word {tp : Nat → Int} {n : Nat} {g : Nat → Int} {d : Int} (h0 : tp 0 = 119) (h1 : tp 1 = 111) (h2 : tp 2 = 114) (h3 : tp 3 = 100) (h4 : tp 4 = 49 + d) (hd : 0 ≤ d ∧ d ≤ 8) (h5 : tp 5 = 58) (hg : ∀ i, i < n → tp (6 + i) = 97 + g i ∧ 0 ≤ g i ∧ g i < 12) (hn : 1 ≤ n ∧ n ≤ 6) (r : Row) : ∃ lt : Row, (∀ k, k < n → lt k = g k) ∧ sRead tp (6 + n) r = sWrd r (1 + d) n lt := by
  have nb : ∀ p, p < 6 + n → tp p ≠ 32 := fun p hp => by
    match p, hp with
    | 0, _ => rw [h0]; decide
    | 1, _ => rw [h1]; decide
    | 2, _ => rw [h2]; decide
    | 3, _ => rw [h3]; decide
    | 4, _ => omega
    | 5, _ => rw [h5]; decide
    | q + 6, hp =>
      have := hg q (by omega)
      rw [show 6 + q = q + 6 by omega] at this
      omega
  have sk : ∀ p, ysk tp (6 + n) p = p := fun p => ysk_stop (fun hp => nb p hp)
  have ke : yke tp (6 + n) 0 = 4 := by
    unfold yke
    have s0 : pke tp (6 + n) (n + 6) 0 = pke tp (6 + n) (n + 5) 1 := pke_s ⟨by omega, by omega, by omega⟩
    have s1 : pke tp (6 + n) (n + 5) 1 = pke tp (6 + n) (n + 4) 2 := pke_s ⟨by omega, by omega, by omega⟩
    have s2 : pke tp (6 + n) (n + 4) 2 = pke tp (6 + n) (n + 3) 3 := pke_s ⟨by omega, by omega, by omega⟩
    have s3 : pke tp (6 + n) (n + 3) 3 = pke tp (6 + n) (n + 2) 4 := pke_s ⟨by omega, by omega, by omega⟩
    have s4 : pke tp (6 + n) (n + 2) 4 = 4 := pke_e (by omega)
    rw [show 6 + n - 0 = n + 6 by omega, s0, s1, s2, s3, s4]
  have kn : ykn tp (6 + n) 0 = 2 := by
    unfold ykn
    rw [sk, ke]
    unfold ykd
    rw [if_neg (fun q => absurd q.1 (by decide)), if_pos]
    refine ⟨by decide, fun k hk => ?_⟩
    have hk : k < 4 := hk
    match k, hk with
    | 0, _ => exact h0
    | 1, _ => exact h1
    | 2, _ => exact h2
    | 3, _ => exact h3
  have pk : pkind tp (6 + n) 0 = (true, 4) := by
    unfold pkind
    rw [kn, if_neg (by decide), sk, ke]
  have ph1 := pchr_t (tp := tp) (N := 6 + n) (a := 49) (b := 57) (p := 4) (by rw [sk]; exact ⟨by omega, by omega, by omega⟩)
  have ph2 := pchr_t (tp := tp) (N := 6 + n) (a := 58) (b := 58) (p := 5) (by rw [sk]; exact ⟨by omega, by omega, by omega⟩)
  rw [sk] at ph1 ph2
  have pw : pwh tp (6 + n) 4 = (true, 6) := by
    unfold pwh
    rw [ph1, yrb_t, ph2]
  obtain ⟨w1, w2, w3⟩ := pwl_go hg hn.2 7 0 (fun _ => 0) (by omega) (by omega) (fun k hk => absurd hk (Nat.not_lt_zero _))
  have yw : ywl tp (6 + n) 6 = pwl tp (6 + n) 7 (6 + 0) 0 (fun _ => 0) := by
    unfold ywl
    rw [sk]
  have pb : pbody tp (6 + n) 2 4 = (true, 6 + n) := by
    unfold pbody
    rw [if_neg (by decide), if_pos rfl]
    unfold pwrd
    rw [pw, yrb_t]
    unfold pwt
    rw [yw, w2, w1, if_neg (by omega)]
  have pa : (pall tp (6 + n)).1 = true := by
    unfold pall
    rw [pk, yrb_t, kn, pb, yrb_t]
    unfold pend
    rw [sk, if_neg (by omega)]
  refine ⟨(ywl tp (6 + n) 6).2.2, fun k hk => by rw [yw]; exact w3 k hk, ?_⟩
  unfold sRead
  rw [if_pos pa, pk, kn]
  unfold sLine
  rw [if_neg (by decide), if_pos rfl, pw, sk]
  have e1 : (ywl tp (6 + n) 6).2.1 = n := by rw [yw]; exact w2
  have e2 : tp 4 - 48 = 1 + d := by omega
  dsimp only
  rw [e1, e2]
section WORDSL
variable {S L : Nat} {F G : Nat → Nat → Int} {h : Nat → Nat → Option Nat} {Q : Option V2 → W2 → Prop} {r : Row} {n : Nat} {R : Nat → Row} {tp : Nat → Int} {x y : Int} {N : Nat} {F0 : Nat → Nat → Int}
theorem l116_167 (o : Oy F h r n R) (hx : 0 ≤ x ∧ x ≤ 2147483647) (hy : 0 ≤ y ∧ y ≤ 2147483647) (hN : 1 ≤ N ∧ N ≤ 6) {j : Nat} (hj : j < ywn r) {x4 x6 : Int} (h6 : x6 = 0 ∨ x6 = 1)
    (K : ∀ z, (z = 0 ∨ z = 1) → (z = 1 ↔ (x6 = 1 ∨ ySame r N (wg x y) j)) → C116_139 x y (N : Int) x4 z ((j : Int) + 1) (Wd S L F G h) Q) : ∀ (m k : Nat) (x8 : Int), k + m = N → (x8 = 0 ∨ x8 = 1) → (x8 = 1 ↔ (r (71 + 8 * j) = (N : Int) ∧ ∀ i, i < k → r (72 + 8 * j + i) = wg x y i)) → C116_167 x y (N : Int) x4 x6 (j : Int) x8 (k : Int) (Wd S L F G h) Q
  | 0, k, x8, e, h8, i8 => by
    have hk : k = N := by omega
    subst hk
    refine T116_167 o.hh ⟨by omega, by omega, ?_⟩
    rw [if_pos (Int.le_refl _)]
    refine ⟨by omega, ?_⟩
    by_cases c : x6 = 0
    · rw [if_pos c]
      refine ⟨by omega, ?_⟩
      by_cases d : x8 = 0
      · rw [if_pos d]
        exact K 0 (Or.inl rfl) ⟨fun q => by omega, fun q => by
          rcases q with q | q
          · omega
          · have := i8.mpr q; omega⟩
      · rw [if_neg d]
        exact K 1 (Or.inr rfl) ⟨fun _ => Or.inr (i8.mp (by omega)), fun _ => rfl⟩
    · rw [if_neg c]
      exact K 1 (Or.inr rfl) ⟨fun _ => Or.inl (by omega), fun _ => rfl⟩
  | m + 1, k, x8, e, h8, i8 => by
    have v := o.v
    have hw8 := ywn_le v
    refine T116_167 o.hh ⟨by omega, by omega, ?_⟩
    rw [if_neg (by omega)]
    refine ⟨by omega, ?_⟩
    by_cases d : x8 = 0
    · rw [if_pos d]
      have nS : ¬ ySame r N (wg x y) j := fun q => by
        have := i8.mpr ⟨q.1, fun i hi => q.2 i (by omega)⟩
        omega
      refine ⟨by omega, ?_⟩
      by_cases c : x6 = 0
      · rw [if_pos c]
        exact K 0 (Or.inl rfl) ⟨fun q => by omega, fun q => by
          rcases q with q | q
          · omega
          · exact absurd q nS⟩
      · rw [if_neg c]
        exact K 1 (Or.inr rfl) ⟨fun _ => Or.inl (by omega), fun _ => rfl⟩
    · rw [if_neg d]
      obtain ⟨i1, i2⟩ := i8.mp (by omega)
      have b1 := v.lt j (by omega) k (by omega)
      have bw := wsh_bd hy (k : Int)
      have e1 : sLetter r (j : Int) (k : Int) = r (72 + 8 * j + k) := by
        unfold sLetter; rw [if_pos (by unfold ywn at hj; omega), if_pos (by show (k : Int) < r (71 + 8 * j); omega)]; rfl
      have ec : (k : Int) + 1 = ((k + 1 : Nat) : Int) := by omega
      refine k83 o (by omega) (by omega) ?_
      rw [e1, ec]
      refine ⟨hx, by omega, ?_⟩
      have step : ∀ z, (z = 0 ∨ z = 1) → (z = 1 ↔ r (72 + 8 * j + k) = wg x y k) → C116_167 x y (N : Int) x4 x6 (j : Int) z ((k + 1 : Nat) : Int) (Wd S L F G h) Q := fun z hz iz =>
        l116_167 o hx hy hN hj h6 K m (k + 1) z (by omega) hz ⟨fun q => ⟨i1, fun i hi => by
          by_cases q2 : i = k
          · rw [q2]; exact iz.mp q
          · exact i2 i (by omega)⟩, fun q => iz.mpr (q.2 k (by omega))⟩
      by_cases c3 : x % 3 = 0
      · have eg : wg x y k = wsh y (k : Int) % 12 := by unfold wg; rw [if_pos c3]
        rw [if_pos c3]
        show ((0 : Int) ≤ wsh y (k : Int) ∧ wsh y (k : Int) ≤ 2147483647) ∧ R32 (r (72 + 8 * j + k)) ∧ R32 (wsh y (k : Int) % 12) ∧ (if r (72 + 8 * j + k) = wsh y (k : Int) % 12 then _ else _)
        rw [eg] at step
        refine ⟨bw, by omega, by omega, ?_⟩
        by_cases q : r (72 + 8 * j + k) = wsh y (k : Int) % 12
        · rw [if_pos q]; exact step 1 (Or.inr rfl) ⟨fun _ => q, fun _ => rfl⟩
        · rw [if_neg q]; exact step 0 (Or.inl rfl) ⟨fun p => by omega, fun p => absurd p q⟩
      · have eg : wg x y k = wsh y (k : Int) % 3 := by unfold wg; rw [if_neg c3]
        rw [if_neg c3]
        show ((0 : Int) ≤ wsh y (k : Int) ∧ wsh y (k : Int) ≤ 2147483647) ∧ R32 (r (72 + 8 * j + k)) ∧ R32 (wsh y (k : Int) % 3) ∧ (if r (72 + 8 * j + k) = wsh y (k : Int) % 3 then _ else _)
        rw [eg] at step
        refine ⟨bw, by omega, by omega, ?_⟩
        by_cases q : r (72 + 8 * j + k) = wsh y (k : Int) % 3
        · rw [if_pos q]; exact step 1 (Or.inr rfl) ⟨fun _ => q, fun _ => rfl⟩
        · rw [if_neg q]; exact step 0 (Or.inl rfl) ⟨fun p => by omega, fun p => absurd p q⟩
def Wk (r r' : Row) : Prop := r' 4 = r 4 ∧ r' 5 = r 5 ∧ r' 1 ≤ r 1 + 1
theorem l116_139 (o : Oy F h r n R) (hx : 0 ≤ x ∧ x ≤ 2147483647) (hy : 0 ≤ y ∧ y ≤ 2147483647) (ta : TA tp (6 + N) F) (tx : Tx x y tp N) (hN : 1 ≤ N ∧ N ≤ 6) (h7 : r 1 ≤ 7) (eN : (N : Int) = 1 + x % 6)
    (K : ∀ F' h' r' n' R', Oy F' h' r' n' R' → F' 284 1 = 0 → F' 0 = F 0 → Wk r r' → RfH h' → Q (some (vi 1)) (Wd S L F' G h')) : ∀ (m j : Nat) (x6 : Int), j + m = ywn r → (x6 = 0 ∨ x6 = 1) → (x6 = 1 ↔ ∃ i, i < j ∧ ySame r N (wg x y) i) → C116_139 x y (N : Int) (ywn r : Int) x6 (j : Int) (Wd S L F G h) Q
  | 0, j, x6, e, h6, i6 => by
    have v := o.v
    have hw := v.w
    have hw8 := ywn_le v
    have h1 : r 1 = (ywn r : Int) := by unfold ywn; omega
    have hj : j = ywn r := by omega
    subst hj
    obtain ⟨t0, t1, t2, t3, t4, t5, t6⟩ := tx
    obtain ⟨lt, hlt, es⟩ := read_word (g := wg x y) (n := N) t0 t1 t2 t3 t4 (by omega) t5 (fun i hi => ⟨t6 i hi, wg_bd hy x i⟩) hN r
    have told : yTold r N lt ↔ x6 = 1 := by
      rw [i6]
      constructor
      · rintro ⟨i, a, b, c⟩
        exact ⟨i, a, b, fun k hk => by rw [c k hk]; exact hlt k hk⟩
      · rintro ⟨i, a, b, c⟩
        exact ⟨i, a, b, fun k hk => by rw [c k hk]; exact (hlt k hk).symm⟩
    refine T116_139 o.hh ⟨by omega, by omega, ?_⟩
    rw [if_pos (Int.le_refl _)]
    have r6 : R32 x6 := by rcases h6 with q | q <;> rw [q] <;> decide
    refine k86 ta o (fun F' h' n' R' o' e1 e0 => ?_)
    rw [es]
    rw [es] at o'
    refine ⟨r6, ?_⟩
    by_cases c : x6 = 0
    · rw [if_pos c]
      have nt : ¬ yTold r N lt := fun q => by
        have z := told.mp q
        rw [c] at z
        exact absurd z (by decide)
      clear told i6
      have e8 : sWrd r (1 + x / 6 % 9) N lt = (r 1 + 1, rWrd r (1 + x / 6 % 9) N lt) := by unfold sWrd; rw [if_neg nt, if_neg (by omega)]
      rw [e8] at o' ⊢
      dsimp only at o' ⊢
      have ew : (r 1).toNat = ywn r := rfl
      have q1 : rWrd r (1 + x / 6 % 9) N lt 1 = r 1 + 1 := by unfold rWrd; rw [if_pos rfl]
      have q2 := rWrd_w (r := r) (a := 1 + x / 6 % 9) (n := N) (lt := lt)
      have q3 := rWrd_n (r := r) (a := 1 + x / 6 % 9) (n := N) (lt := lt)
      have q4 := rWrd_o (r := r) (a := 1 + x / 6 % 9) (n := N) (lt := lt) (j := 4) hN.2 (by decide) (by omega)
      have q5 := rWrd_o (r := r) (a := 1 + x / 6 % 9) (n := N) (lt := lt) (j := 5) hN.2 (by decide) (by omega)
      rw [ew] at q2 q3
      generalize rWrd r (1 + x / 6 % 9) N lt = r' at *
      have g0 : sWord r' (ywn r : Int) 0 = 1 + x / 6 % 9 := by
        unfold sWord; rw [if_pos (by omega), if_pos rfl]; exact q2
      have g1 : sWord r' (ywn r : Int) 1 = (N : Int) := by
        unfold sWord; rw [if_pos (by omega)]; exact q3
      have g2 : sLetter r' (ywn r : Int) (N : Int) = -4 := by
        unfold sLetter; rw [if_pos (by omega)]
        show (if (N : Int) < r' (71 + 8 * ywn r) then _ else (-4 : Int)) = -4
        rw [if_neg (by omega)]
      have g3 : sLetter r' (ywn r : Int) (-1) = -1 := by
        unfold sLetter; rw [if_neg (by omega)]
      have rc : sCount r' (n' : Int) 9 = r' 1 := rfl
      refine ⟨by omega, by omega, by omega, ?_⟩
      refine k75 o' (by decide) (fun F1 o1 b1 => ?_)
      rw [rc]
      refine ⟨by omega, by omega, ?_⟩
      refine k82 o1 (by omega) (by decide) ?_
      rw [g0]
      refine ⟨hx, by omega, by omega, by omega, rfl, ?_⟩
      refine k82 o1 (by omega) (by decide) ?_
      rw [g1]
      refine ⟨by omega, by omega, rfl, ?_⟩
      refine k83 o1 (by omega) (by omega) ?_
      rw [g2]
      refine ⟨by decide, rfl, ?_⟩
      refine k83 o1 (by omega) (by decide) ?_
      rw [g3]
      refine ⟨by decide, rfl, ?_⟩
      exact K F1 h' r' n' R' o1 (by rw [b1 284 (by omega)]; exact e1) (by rw [b1 0 (by omega)]; exact e0) ⟨q4, q5, by omega⟩ o1.hh
    · rw [if_neg c]
      have e8 : sWrd r (1 + x / 6 % 9) N lt = (-2, r) := by unfold sWrd; rw [if_pos (told.mpr (h6.resolve_left c))]
      clear told i6
      rw [e8] at o' ⊢
      dsimp only at o' ⊢
      have rc : sCount r (n' : Int) 9 = r 1 := rfl
      refine ⟨by decide, rfl, ?_⟩
      refine k75 o' (by decide) (fun F1 o1 b1 => ?_)
      rw [rc]
      refine ⟨by omega, by omega, ?_⟩
      exact K F1 h' r n' R' o1 (by rw [b1 284 (by omega)]; exact e1) (by rw [b1 0 (by omega)]; exact e0) ⟨rfl, rfl, by omega⟩ o1.hh
  | m + 1, j, x6, e, h6, i6 => by
    have v := o.v
    have hw := v.w
    have hw8 := ywn_le v
    have hj : j < ywn r := by omega
    have hz := v.sz j (by omega)
    have ec : (j : Int) + 1 = ((j + 1 : Nat) : Int) := by omega
    refine T116_139 o.hh ⟨by omega, by omega, ?_⟩
    rw [if_neg (by omega)]
    refine k82 o (by omega) (by decide) ?_
    rw [sW1 hj]
    refine ⟨by omega, by omega, ?_⟩
    have go : ∀ z, (z = 0 ∨ z = 1) → (z = 1 ↔ r (71 + 8 * j) = (N : Int)) → C116_167 x y (N : Int) (ywn r : Int) x6 (j : Int) z 0 (Wd S L F G h) Q := fun z hz iz => by
      refine l116_167 o hx hy hN hj h6 (fun u hu iu => ?_) N 0 z (by omega) hz ⟨fun q => ⟨iz.mp q, fun i hi => absurd hi (Nat.not_lt_zero i)⟩, fun q => iz.mpr q.1⟩
      rw [ec]
      refine l116_139 o hx hy ta tx hN h7 eN K m (j + 1) u (by omega) hu ?_
      rw [iu, i6]
      constructor
      · rintro (⟨i, a, b⟩ | b)
        · exact ⟨i, by omega, b⟩
        · exact ⟨j, by omega, b⟩
      · rintro ⟨i, a, b⟩
        by_cases q : i = j
        · rw [q] at b; exact Or.inr b
        · exact Or.inl ⟨i, by omega, b⟩
    by_cases c : r (71 + 8 * j) = (N : Int)
    · rw [if_pos c]; exact go 1 (Or.inr rfl) ⟨fun _ => c, fun _ => rfl⟩
    · rw [if_neg c]; exact go 0 (Or.inl rfl) ⟨fun q => by omega, fun q => absurd q c⟩
theorem l116_94 (hx : 0 ≤ x ∧ x ≤ 2147483647) (hy : 0 ≤ y ∧ y ≤ 2147483647) (hN : 1 ≤ N ∧ N ≤ 6) (h7 : r 1 ≤ 7) (eN : (N : Int) = 1 + x % 6)
    (K : ∀ F' h' r' n' R', Oy F' h' r' n' R' → F' 284 1 = 0 → F' 0 = F0 0 → Wk r r' → RfH h' → Q (some (vi 1)) (Wd S L F' G h')) : ∀ (m k : Nat) (F : Nat → Nat → Int) (tp : Nat → Int), k + m = N → Oy F h r n R → F 0 = F0 0 → TA tp (6 + k) F → Tx x y tp k → C116_94 x y (N : Int) (ywn r : Int) (k : Int) (Wd S L F G h) Q
  | 0, k, F, tp, e, o, e0, ta, tx => by
    have hk : k = N := by omega
    subst hk
    refine T116_94 o.hh ⟨by omega, by omega, ?_⟩
    rw [if_pos (Int.le_refl _)]
    exact l116_139 o hx hy ta tx hN h7 eN (fun F' h' r' n' R' o' a b c d => K F' h' r' n' R' o' a (by rw [b, e0]) c d) (ywn r) 0 0 (by omega) (Or.inl rfl) ⟨fun q => by omega, fun q => by obtain ⟨i, a, _⟩ := q; omega⟩
  | m + 1, k, F, tp, e, o, e0, ta, tx => by
    have bw := wsh_bd hy (k : Int)
    have ec : (k : Int) + 1 = ((k + 1 : Nat) : Int) := by omega
    have b := wg_bd hy x k
    have go : ∀ (F' : Nat → Nat → Int), TA (yu1 tp (6 + k) (97 + wg x y k)) (6 + k + 1) F' → (∀ p, p ≠ 284 → p ≠ 285 → F' p = F p) → C116_94 x y (N : Int) (ywn r : Int) ((k : Int) + 1) (Wd S L F' G h) Q := fun F' ta' f => by
      rw [ec]
      refine l116_94 hx hy hN h7 eN K m (k + 1) F' _ (by omega) (o.cg (fun p hp => f p (by omega) (by omega))) (by rw [f 0 (by decide) (by decide)]; exact e0) ta' ?_
      obtain ⟨t0, t1, t2, t3, t4, t5, t6⟩ := tx
      refine ⟨?_, ?_, ?_, ?_, ?_, ?_, fun i hi => ?_⟩
      · unfold yu1; rw [if_neg (by omega)]; exact t0
      · unfold yu1; rw [if_neg (by omega)]; exact t1
      · unfold yu1; rw [if_neg (by omega)]; exact t2
      · unfold yu1; rw [if_neg (by omega)]; exact t3
      · unfold yu1; rw [if_neg (by omega)]; exact t4
      · unfold yu1; rw [if_neg (by omega)]; exact t5
      · unfold yu1
        by_cases q : i = k
        · rw [if_pos (by omega), q]
        · rw [if_neg (by omega)]; exact t6 i (by omega)
    refine T116_94 o.hh ⟨by omega, by omega, ?_⟩
    rw [if_neg (by omega)]
    refine ⟨hx, by omega, ?_⟩
    by_cases c3 : x % 3 = 0
    · have eg : wg x y k = wsh y (k : Int) % 12 := by unfold wg; rw [if_pos c3]
      rw [if_pos c3]
      show ((0 : Int) ≤ wsh y (k : Int) ∧ wsh y (k : Int) ≤ 2147483647) ∧ C85_0 (97 + wsh y (k : Int) % 12) (Wd S L F G h) _
      rw [← eg]
      exact ⟨bw, k85 o.hh ta (by omega) (by omega) go⟩
    · have eg : wg x y k = wsh y (k : Int) % 3 := by unfold wg; rw [if_neg c3]
      rw [if_neg c3]
      show ((0 : Int) ≤ wsh y (k : Int) ∧ wsh y (k : Int) ≤ 2147483647) ∧ C85_0 (97 + wsh y (k : Int) % 3) (Wd S L F G h) _
      rw [← eg]
      exact ⟨bw, k85 o.hh ta (by omega) (by omega) go⟩
theorem k116 (o : Oy F h r n R) (hx : 0 ≤ x ∧ x ≤ 2147483647) (hy : 0 ≤ y ∧ y ≤ 2147483647) (h7 : r 1 ≤ 7) (et : F 284 1 = 0) {P : Int → (Nat → Nat → Int) → (Nat → Nat → Option Nat) → Prop} (H : ∀ F' h' r' n' R', Oy F' h' r' n' R' → F' 284 1 = 0 → F' 0 = F 0 → Wk r r' → P 1 F' h') : C116_0 x y (Wd S L F G h) (fun v w1 => ∃ (z : Int) (F' : Nat → Nat → Int) (h' : Nat → Nat → Option Nat), v = some (vi z) ∧ w1 = (Wd S L F' G h') ∧ RfH h' ∧ P z F' h') := by
  have v := o.v
  have hw := v.w
  have h1 : r 1 = (ywn r : Int) := by unfold ywn; omega
  have rc : sCount r (n : Int) 9 = r 1 := rfl
  refine T116_0 o.hh ⟨hx, ?_⟩
  refine k75 o (by decide) (fun F1 o b1 => ?_)
  rw [rc]
  have ta0 : TA (fun _ => 0) 0 F1 := ⟨by rw [b1 284 (by omega)]; exact et, by decide, fun k hk => absurd hk (Nat.not_lt_zero k)⟩
  refine k85 o.hh ta0 (by decide) (by decide) (fun F2 t2 f2 => ⟨by decide, rfl, ?_⟩)
  refine k85 o.hh t2 (by decide) (by decide) (fun F3 t3 f3 => ⟨by decide, rfl, ?_⟩)
  refine k85 o.hh t3 (by decide) (by decide) (fun F4 t4 f4 => ⟨by decide, rfl, ?_⟩)
  refine k85 o.hh t4 (by decide) (by decide) (fun F5 t5 f5 => ⟨by decide, rfl, by omega, ?_⟩)
  refine k85 o.hh t5 (by decide) (by omega) (fun F6 t6 f6 => ⟨by decide, rfl, ?_⟩)
  refine k85 o.hh t6 (by decide) (by decide) (fun F7 t7 f7 => ⟨by decide, rfl, ?_⟩)
  have f : ∀ p, p ≠ 284 → p ≠ 285 → F7 p = F1 p := fun p q1 q2 => by rw [f7 p q1 q2, f6 p q1 q2, f5 p q1 q2, f4 p q1 q2, f3 p q1 q2, f2 p q1 q2]
  have key := l116_94 (S := S) (L := L) (G := G) (r := r) (n := n) (R := R) (h := h) (F0 := F) (N := (1 + x % 6).toNat) (Q := fun v w1 => ∃ (z : Int) (F' : Nat → Nat → Int) (h' : Nat → Nat → Option Nat), v = some (vi z) ∧ w1 = (Wd S L F' G h') ∧ RfH h' ∧ P z F' h') hx hy (by omega) h7 (by omega)
    (fun F' h' r' n' R' o' a b c d => ⟨_, F', h', rfl, rfl, d, H F' h' r' n' R' o' a b c⟩) (1 + x % 6).toNat 0 F7 _ (by omega) (o.cg (fun p hp => f p (by omega) (by omega))) (by rw [f 0 (by decide) (by decide), b1 0 (by omega)]) t7 ⟨rfl, rfl, rfl, rfl, rfl, rfl, fun i hi => absurd hi (Nat.not_lt_zero i)⟩
  rw [show (((1 + x % 6).toNat : Nat) : Int) = 1 + x % 6 by omega] at key
  rw [h1]
  exact key
end WORDSL
