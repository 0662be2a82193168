/-! rows that stay good -/
theorem Yvd.upd {r r' : Row} (v : Yvd r) (e0 : r' 0 = r 0) (e1 : r' 1 = r 1) (e2 : r' 2 = r 2) (e3 : r' 3 = r 3) (e58 : ∀ k, 58 ≤ k → k < 134 → r' k = r k)
    (b4 : 0 ≤ r' 4 ∧ r' 4 ≤ 3) (b5 : 0 ≤ r' 5 ∧ r' 5 ≤ 2147483647) (bo : ∀ k, k < 8 → 0 ≤ r' (6 + k) ∧ r' (6 + k) ≤ 12) (bw : ∀ k, k < 8 → 0 ≤ r' (14 + k) ∧ r' (14 + k) ≤ 12) (bs : ∀ k, k < 12 → 0 ≤ r' (22 + k) ∧ r' (22 + k) < 8) (bp : ∀ k, k < 12 → 0 ≤ r' (34 + k) ∧ r' (34 + k) ≤ 5) (bg : ∀ k, k < 12 → 0 ≤ r' (46 + k) ∧ r' (46 + k) < 12) : Yvd r' := by
  have hn := v.n
  have hw := v.w
  have et : ytot r' = ytot r := by
    unfold ytot
    rw [e0]
    exact ysm_cong (fun k hk => e58 _ (by omega) (by omega))
  exact ⟨by rw [e0]; exact v.n, by rw [e1]; exact v.w, by rw [e2]; exact v.lo, by rw [e3]; exact v.by, b4, b5, bo, bw, bs, bp, bg,
    fun k hk => by rw [e58 _ (by omega) (by omega)]; exact v.tm k hk, fun k hk => by rw [e0] at hk; rw [e58 _ (by omega) (by omega)]; exact v.tp k hk,
    fun j hj => by rw [e58 _ (by omega) (by omega)]; exact v.wt j hj, fun j hj => by rw [e58 _ (by omega) (by omega)]; exact v.sz j hj, fun j hj k hk => by rw [e58 _ (by omega) (by omega)]; exact v.lt j hj k hk,
    fun j hj => by rw [e1] at hj; rw [e58 _ (by omega) (by omega), e58 _ (by omega) (by omega)]; exact v.wp j hj, by rw [et, e2, e3]; exact v.mk⟩
theorem Yvd.line {r r' : Row} (v : Yvd r) (es : ∀ k, k < 134 → k ≠ 0 → ¬ (46 ≤ k ∧ k < 70) → r' k = r k) (hn : 0 ≤ r' 0 ∧ r' 0 ≤ 12) (bg : ∀ k, k < 12 → 0 ≤ r' (46 + k) ∧ r' (46 + k) < 12) (bt : ∀ k, k < 12 → 0 ≤ r' (58 + k) ∧ r' (58 + k) ≤ 12) (bp : ∀ k : Nat, (k : Int) < r' 0 → 1 ≤ r' (58 + k)) (hm : ymk (ytot r') (r 2) (r 3) ≤ 100) : Yvd r' := by
  have hw := v.w
  have e1 := es 1 (by omega) (by omega) (by omega)
  have e2 := es 2 (by omega) (by omega) (by omega)
  have e3 := es 3 (by omega) (by omega) (by omega)
  have e4 := es 4 (by omega) (by omega) (by omega)
  have e5 := es 5 (by omega) (by omega) (by omega)
  exact ⟨hn, by rw [e1]; exact v.w, by rw [e2]; exact v.lo, by rw [e3]; exact v.by, by rw [e4]; exact v.wi, by rw [e5]; exact v.dr,
    fun k hk => by rw [es _ (by omega) (by omega) (by omega)]; exact v.op k hk, fun k hk => by rw [es _ (by omega) (by omega) (by omega)]; exact v.wd k hk, fun k hk => by rw [es _ (by omega) (by omega) (by omega)]; exact v.sh k hk, fun k hk => by rw [es _ (by omega) (by omega) (by omega)]; exact v.pu k hk, bg, bt, bp,
    fun j hj => by rw [es _ (by omega) (by omega) (by omega)]; exact v.wt j hj, fun j hj => by rw [es _ (by omega) (by omega) (by omega)]; exact v.sz j hj, fun j hj k hk => by rw [es _ (by omega) (by omega) (by omega)]; exact v.lt j hj k hk,
    fun j hj => by rw [e1] at hj; rw [es _ (by omega) (by omega) (by omega), es _ (by omega) (by omega) (by omega)]; exact v.wp j hj, by rw [e2, e3]; exact hm⟩
theorem Yvd.words {r r' : Row} (v : Yvd r) (es : ∀ k, k < 70 → k ≠ 1 → r' k = r k) (hw : 0 ≤ r' 1 ∧ r' 1 ≤ 8) (b1 : ∀ j, j < 8 → 0 ≤ r' (70 + 8 * j) ∧ r' (70 + 8 * j) ≤ 9) (b2 : ∀ j, j < 8 → 0 ≤ r' (71 + 8 * j) ∧ r' (71 + 8 * j) ≤ 6) (b3 : ∀ j, j < 8 → ∀ k, k < 6 → 0 ≤ r' (72 + 8 * j + k) ∧ r' (72 + 8 * j + k) < 12) (b4 : ∀ j : Nat, (j : Int) < r' 1 → 1 ≤ r' (70 + 8 * j) ∧ 1 ≤ r' (71 + 8 * j)) : Yvd r' := by
  have hn := v.n
  have e0 := es 0 (by omega) (by omega)
  have et : ytot r' = ytot r := by
    unfold ytot
    rw [e0]
    exact ysm_cong (fun k hk => es _ (by omega) (by omega))
  exact ⟨by rw [e0]; exact v.n, hw, by rw [es 2 (by omega) (by omega)]; exact v.lo, by rw [es 3 (by omega) (by omega)]; exact v.by, by rw [es 4 (by omega) (by omega)]; exact v.wi, by rw [es 5 (by omega) (by omega)]; exact v.dr,
    fun k hk => by rw [es _ (by omega) (by omega)]; exact v.op k hk, fun k hk => by rw [es _ (by omega) (by omega)]; exact v.wd k hk, fun k hk => by rw [es _ (by omega) (by omega)]; exact v.sh k hk, fun k hk => by rw [es _ (by omega) (by omega)]; exact v.pu k hk, fun k hk => by rw [es _ (by omega) (by omega)]; exact v.sg k hk, fun k hk => by rw [es _ (by omega) (by omega)]; exact v.tm k hk,
    fun k hk => by rw [e0] at hk; rw [es _ (by omega) (by omega)]; exact v.tp k hk, b1, b2, b3, b4, by rw [et, es 2 (by omega) (by omega), es 3 (by omega) (by omega)]; exact v.mk⟩
theorem ymk_mono {t t' a b : Int} (h : t ≤ t') (ha : 1 ≤ a) (hb : 0 ≤ b) : ymk t a b ≤ ymk t' a b := by
  unfold ymk
  refine Int.ediv_le_ediv (by omega) ?_
  have : 2 * t * b ≤ 2 * t' * b := Int.mul_le_mul_of_nonneg_right (by omega) hb
  omega
theorem Yvd_sShape {r : Row} (v : Yvd r) (k o w : Int) : Yvd (sShape r k o w).2 := by
  unfold sShape
  split
  · split
    · exact v
    · rename_i hb _
      refine v.upd ?_ ?_ ?_ ?_ (fun k' h1 h2 => ?_) ?_ ?_ (fun k' hk' => ?_) (fun k' hk' => ?_) (fun k' hk' => ?_) (fun k' hk' => ?_) (fun k' hk' => ?_)
      · simp only [yu1]; rw [if_neg (by omega), if_neg (by omega)]
      · simp only [yu1]; rw [if_neg (by omega), if_neg (by omega)]
      · simp only [yu1]; rw [if_neg (by omega), if_neg (by omega)]
      · simp only [yu1]; rw [if_neg (by omega), if_neg (by omega)]
      · simp only [yu1]; rw [if_neg (by omega), if_neg (by omega)]
      · have := v.wi; simp only [yu1]; rw [if_neg (by omega), if_neg (by omega)]; exact this
      · have := v.dr; simp only [yu1]; rw [if_neg (by omega), if_neg (by omega)]; exact this
      · have := v.op k' hk'; simp only [yu1]; repeat' split
        all_goals omega
      · have := v.wd k' hk'; simp only [yu1]; repeat' split
        all_goals omega
      · have := v.sh k' hk'; simp only [yu1]; repeat' split
        all_goals omega
      · have := v.pu k' hk'; simp only [yu1]; repeat' split
        all_goals omega
      · have := v.sg k' hk'; simp only [yu1]; repeat' split
        all_goals omega
  · exact v
theorem Yvd_sSign {r : Row} (v : Yvd r) (k o w : Int) : Yvd (sSign r k o w).2 := by
  unfold sSign
  split
  · split
    · exact v
    · rename_i hb _
      refine v.upd ?_ ?_ ?_ ?_ (fun k' h1 h2 => ?_) ?_ ?_ (fun k' hk' => ?_) (fun k' hk' => ?_) (fun k' hk' => ?_) (fun k' hk' => ?_) (fun k' hk' => ?_)
      · simp only [yu1]; rw [if_neg (by omega), if_neg (by omega)]
      · simp only [yu1]; rw [if_neg (by omega), if_neg (by omega)]
      · simp only [yu1]; rw [if_neg (by omega), if_neg (by omega)]
      · simp only [yu1]; rw [if_neg (by omega), if_neg (by omega)]
      · simp only [yu1]; rw [if_neg (by omega), if_neg (by omega)]
      · have := v.wi; simp only [yu1]; rw [if_neg (by omega), if_neg (by omega)]; exact this
      · have := v.dr; simp only [yu1]; rw [if_neg (by omega), if_neg (by omega)]; exact this
      · have := v.op k' hk'; simp only [yu1]; repeat' split
        all_goals omega
      · have := v.wd k' hk'; simp only [yu1]; repeat' split
        all_goals omega
      · have := v.sh k' hk'; simp only [yu1]; repeat' split
        all_goals omega
      · have := v.pu k' hk'; simp only [yu1]; repeat' split
        all_goals omega
      · have := v.sg k' hk'; simp only [yu1]; repeat' split
        all_goals omega
  · exact v
theorem Yvd_sWindow {r : Row} (v : Yvd r) (w : Int) : Yvd (sWindow r w).2 := by
  unfold sWindow
  split
  · split
    · exact v
    · rename_i hb _
      refine v.upd ?_ ?_ ?_ ?_ (fun k' h1 h2 => ?_) ?_ ?_ (fun k' hk' => ?_) (fun k' hk' => ?_) (fun k' hk' => ?_) (fun k' hk' => ?_) (fun k' hk' => ?_)
      · simp only [yu1]; rw [if_neg (by omega)]
      · simp only [yu1]; rw [if_neg (by omega)]
      · simp only [yu1]; rw [if_neg (by omega)]
      · simp only [yu1]; rw [if_neg (by omega)]
      · simp only [yu1]; rw [if_neg (by omega)]
      · simp only [yu1, if_true]; exact hb
      · have := v.dr; simp only [yu1]; rw [if_neg (by omega)]; exact this
      · have := v.op k' hk'; simp only [yu1]; rw [if_neg (by omega)]; exact this
      · have := v.wd k' hk'; simp only [yu1]; rw [if_neg (by omega)]; exact this
      · have := v.sh k' hk'; simp only [yu1]; rw [if_neg (by omega)]; exact this
      · have := v.pu k' hk'; simp only [yu1]; rw [if_neg (by omega)]; exact this
      · have := v.sg k' hk'; simp only [yu1]; rw [if_neg (by omega)]; exact this
  · exact v
theorem Yvd_draw {r : Row} (v : Yvd r) {x : Int} (hx : 0 ≤ x ∧ x ≤ 2147483647) : Yvd (yu1 r 5 x) := by
  refine v.upd ?_ ?_ ?_ ?_ (fun k' h1 h2 => ?_) ?_ ?_ (fun k' hk' => ?_) (fun k' hk' => ?_) (fun k' hk' => ?_) (fun k' hk' => ?_) (fun k' hk' => ?_)
  · simp only [yu1]; rw [if_neg (by omega)]
  · simp only [yu1]; rw [if_neg (by omega)]
  · simp only [yu1]; rw [if_neg (by omega)]
  · simp only [yu1]; rw [if_neg (by omega)]
  · simp only [yu1]; rw [if_neg (by omega)]
  · have := v.wi; simp only [yu1]; rw [if_neg (by omega)]; exact this
  · simp only [yu1, if_true]; exact hx
  · have := v.op k' hk'; simp only [yu1]; rw [if_neg (by omega)]; exact this
  · have := v.wd k' hk'; simp only [yu1]; rw [if_neg (by omega)]; exact this
  · have := v.sh k' hk'; simp only [yu1]; rw [if_neg (by omega)]; exact this
  · have := v.pu k' hk'; simp only [yu1]; rw [if_neg (by omega)]; exact this
  · have := v.sg k' hk'; simp only [yu1]; rw [if_neg (by omega)]; exact this
theorem Yvd_sFrame {r : Row} (v : Yvd r) (a b : Int) : Yvd (sFrame r a b).2 := by
  unfold sFrame
  split
  · split
    · exact v
    · split
      · rename_i hb _ hm
        show Yvd (yu1 (yu1 r 2 a) 3 b)
        have e : ∀ k, k ≠ 2 → k ≠ 3 → yu1 (yu1 r 2 a) 3 b k = r k := fun k h2 h3 => by
          simp only [yu1]; rw [if_neg h3, if_neg h2]
        have et : ytot (yu1 (yu1 r 2 a) 3 b) = ytot r := by
          unfold ytot
          rw [e 0 (by omega) (by omega)]
          exact ysm_cong (fun k hk => e _ (by omega) (by omega))
        have e2 : yu1 (yu1 r 2 a) 3 b 2 = a := rfl
        have e3 : yu1 (yu1 r 2 a) 3 b 3 = b := rfl
        exact ⟨by rw [e _ (by omega) (by omega)]; exact v.n, by rw [e _ (by omega) (by omega)]; exact v.w, by rw [e2]; omega, by rw [e3]; omega, by rw [e _ (by omega) (by omega)]; exact v.wi, by rw [e _ (by omega) (by omega)]; exact v.dr,
          fun k hk => by rw [e _ (by omega) (by omega)]; exact v.op k hk, fun k hk => by rw [e _ (by omega) (by omega)]; exact v.wd k hk, fun k hk => by rw [e _ (by omega) (by omega)]; exact v.sh k hk, fun k hk => by rw [e _ (by omega) (by omega)]; exact v.pu k hk, fun k hk => by rw [e _ (by omega) (by omega)]; exact v.sg k hk, fun k hk => by rw [e _ (by omega) (by omega)]; exact v.tm k hk,
          fun k hk => by rw [e _ (by omega) (by omega)] at hk; rw [e _ (by omega) (by omega)]; exact v.tp k hk,
          fun j hj => by rw [e _ (by omega) (by omega)]; exact v.wt j hj, fun j hj => by rw [e _ (by omega) (by omega)]; exact v.sz j hj, fun j hj k hk => by rw [e _ (by omega) (by omega)]; exact v.lt j hj k hk,
          fun j hj => by rw [e _ (by omega) (by omega)] at hj; rw [e _ (by omega) (by omega), e _ (by omega) (by omega)]; exact v.wp j hj, by rw [et, e2, e3]; exact hm⟩
      · exact v
  · exact v
theorem Yvd_sSound {r : Row} (v : Yvd r) (s t : Int) : Yvd (sSound r s t).2 := by
  unfold sSound
  split
  · split
    · rename_i hb hm
      have hn := v.n
      show Yvd (yu1 (yu1 (yu1 r (46 + (r 0).toNat) s) (58 + (r 0).toNat) t) 0 (r 0 + 1))
      generalize hr : yu1 (yu1 (yu1 r (46 + (r 0).toNat) s) (58 + (r 0).toNat) t) 0 (r 0 + 1) = r'
      have e0 : r' 0 = r 0 + 1 := by rw [← hr]; rfl
      have e58 : ∀ k, k < 12 → r' (58 + k) = if k = (r 0).toNat then t else r (58 + k) := fun k hk => by
        rw [← hr]; simp only [yu1]
        rw [if_neg (by omega)]
        by_cases q : k = (r 0).toNat
        · rw [if_pos (by omega), if_pos q]
        · rw [if_neg (by omega), if_neg (by omega), if_neg q]
      refine v.line (fun k h1 h2 h3 => ?_) (by omega) (fun k hk => ?_) (fun k hk => ?_) (fun k hk => ?_) ?_
      · rw [← hr]; simp only [yu1]
        rw [if_neg h2, if_neg (by omega), if_neg (by omega)]
      · have := v.sg k hk
        rw [← hr]; simp only [yu1]
        repeat' split
        all_goals omega
      · have := v.tm k hk
        rw [e58 k hk]
        split <;> omega
      · rw [e0] at hk
        rw [e58 k (by omega)]
        split
        · omega
        · exact v.tp k (by omega)
      · have et : ytot r' = ytot r + t := by
          unfold ytot
          rw [e0, show (r 0 + 1).toNat = (r 0).toNat + 1 by omega]
          show ysm (fun k => r' (58 + k)) (r 0).toNat + r' (58 + (r 0).toNat) = _
          rw [e58 _ (by omega), if_pos rfl, ysm_cong (g := fun k => r (58 + k)) (fun k hk => by
            show r' (58 + k) = r (58 + k)
            rw [e58 k (by omega), if_neg (by omega)])]
        rw [et]; exact hm.2
    · exact v
  · exact v
theorem ysm_out {f g : Nat → Int} {i : Nat} (hf : ∀ k, 0 ≤ f k) (h1 : ∀ k, k < i → g k = f k) (h2 : ∀ k, i ≤ k → g k = f (k + 1)) : ∀ n, ysm g n ≤ ysm f (n + 1)
  | 0 => by
    show (0 : Int) ≤ 0 + f 0
    have := hf 0
    omega
  | n + 1 => by
    rcases Nat.lt_or_ge n i with q | q
    · have e : ysm g (n + 1) = ysm f (n + 1) := ysm_cong (fun k hk => h1 k (by omega))
      rw [e]
      show _ ≤ ysm f (n + 1) + f (n + 1)
      have := hf (n + 1)
      omega
    · have ih := ysm_out hf h1 h2 n
      show ysm g n + g n ≤ ysm f (n + 1) + f (n + 1)
      rw [h2 n q]
      omega
theorem Yvd_sOut {r : Row} (v : Yvd r) (i : Int) : Yvd (sOut r i).2 := by
  unfold sOut
  split
  · rename_i hb
    have hn := v.n
    show Yvd (rOut r i.toNat)
    have e0 : rOut r i.toNat 0 = r 0 - 1 := rfl
    have hlo := v.lo
    have hby := v.by
    refine v.line (fun k h1 h2 h3 => ?_) (by rw [e0]; omega) (fun k hk => ?_) (fun k hk => ?_) (fun k hk => ?_) ?_
    · show (if k = 0 then _ else if _ then r (k + 1) else r k) = r k
      rw [if_neg h2, if_neg (by omega)]
    · show 0 ≤ (if 46 + k = 0 then _ else if _ then r (46 + k + 1) else r (46 + k)) ∧ (if 46 + k = 0 then _ else if _ then r (46 + k + 1) else r (46 + k)) < 12
      rw [if_neg (by omega)]
      split
      · exact v.sg (k + 1) (by omega)
      · exact v.sg k hk
    · show 0 ≤ (if 58 + k = 0 then _ else if _ then r (58 + k + 1) else r (58 + k)) ∧ (if 58 + k = 0 then _ else if _ then r (58 + k + 1) else r (58 + k)) ≤ 12
      rw [if_neg (by omega)]
      split
      · exact v.tm (k + 1) (by omega)
      · exact v.tm k hk
    · rw [e0] at hk
      show 1 ≤ (if 58 + k = 0 then _ else if _ then r (58 + k + 1) else r (58 + k))
      rw [if_neg (by omega)]
      split
      · exact v.tp (k + 1) (by omega)
      · exact v.tp k (by omega)
    · refine Int.le_trans (ymk_mono ?_ hlo.1 (by omega)) v.mk
      have e1 : (r 0).toNat = (r 0 - 1).toNat + 1 := by omega
      have := ysm_out (f := fun k => if k < 12 then r (58 + k) else 0) (g := fun k => if k < i.toNat then (if k < 12 then r (58 + k) else 0) else (if k + 1 < 12 then r (58 + (k + 1)) else 0)) (i := i.toNat) (fun k => by
        show 0 ≤ (if k < 12 then r (58 + k) else 0)
        split
        · exact (v.tm k (by assumption)).1
        · exact Int.le_refl 0) (fun k hk => if_pos hk) (fun k hk => if_neg (by omega)) (r 0 - 1).toNat
      rw [← e1] at this
      have ea : ytot (rOut r i.toNat) = ysm (fun k => if k < i.toNat then (if k < 12 then r (58 + k) else 0) else (if k + 1 < 12 then r (58 + (k + 1)) else 0)) (r 0 - 1).toNat := by
        unfold ytot
        rw [e0]
        refine ysm_cong (fun k hk => ?_)
        show (if 58 + k = 0 then _ else if _ then r (58 + k + 1) else r (58 + k)) = if k < i.toNat then (if k < 12 then r (58 + k) else 0) else (if k + 1 < 12 then r (58 + (k + 1)) else 0)
        rw [if_neg (by omega)]
        by_cases q : k < i.toNat
        · rw [if_neg (by omega), if_pos q, if_pos (by omega)]
        · rw [if_pos (by omega), if_neg q, if_pos (by omega)]
          rfl
      have eb : ytot r = ysm (fun k => if k < 12 then r (58 + k) else 0) (r 0).toNat := by
        unfold ytot
        exact ysm_cong (fun k hk => (if_pos (by omega)).symm)
      rw [ea, eb]
      exact this
  · exact v
theorem Yvd_sForget {r : Row} (v : Yvd r) (i : Int) : Yvd (sForget r i).2 := by
  unfold sForget
  split
  · rename_i hb
    have hw := v.w
    show Yvd (rForget r i.toNat)
    have e1 : rForget r i.toNat 1 = r 1 - 1 := rfl
    have e : ∀ k, k ≠ 1 → rForget r i.toNat k = if 70 + 8 * i.toNat ≤ k ∧ k < 62 + 8 * (r 1).toNat then r (k + 8) else r k := fun k hk => if_neg hk
    refine v.words (fun k h1 h2 => ?_) (by rw [e1]; omega) (fun j hj => ?_) (fun j hj => ?_) (fun j hj k hk => ?_) (fun j hj => ?_)
    · rw [e k h2, if_neg (by omega)]
    · rw [e _ (by omega)]
      split
      · exact v.wt (j + 1) (by omega)
      · exact v.wt j hj
    · rw [e _ (by omega)]
      split
      · exact v.sz (j + 1) (by omega)
      · exact v.sz j hj
    · rw [e _ (by omega)]
      split
      · have := v.lt (j + 1) (by omega) k hk
        rw [show 72 + 8 * j + k + 8 = 72 + 8 * (j + 1) + k by omega]
        exact this
      · exact v.lt j hj k hk
    · rw [e1] at hj
      rw [e _ (by omega), e _ (by omega)]
      by_cases q : 70 + 8 * i.toNat ≤ 70 + 8 * j
      · rw [if_pos (by omega), if_pos (by omega)]
        exact v.wp (j + 1) (by omega)
      · rw [if_neg (by omega), if_neg (by omega)]
        exact v.wp j (by omega)
  · exact v
