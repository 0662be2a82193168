/-! a step of the second abstract machine is a step of the first -/
def Sim (a : AO) (s' : S2) : Prop := ∃ (q' : Option Prop) (lv' : AL), a = some (q', s'.1, lv', s'.2.2.1.map lV, lW s'.2.2.2) ∧ am_h q' ∧ Lr s'.2.1 lv'
theorem y_cI (c : Int32) : Int32.ofInt c.toInt = c := Int32.ofInt_toInt c
theorem y_cJ (c : Int64) : Int64.ofInt c.toInt = c := Int64.ofInt_toInt c
section SIM
variable {nx i : Nat} {lv : L2} {st : List V2} {w : W2} {lv1 : AL} {q : Option Prop} {s' : S2}
theorem y_c_sim {v : Value} (h : y_c nx lv st w v = some (q, s')) (hl : Lr lv lv1) : Sim (some (none, nx, lv1, v :: st.map lV, lW w)) s' := by
  unfold y_c at h
  split at h
  · cases h
    exact ⟨none, lv1, by simp [lV, y_cI], trivial, hl⟩
  · cases h
    exact ⟨none, lv1, by simp [lV, y_cJ], trivial, hl⟩
  · cases h
    exact ⟨none, lv1, rfl, trivial, hl⟩
  · cases h
theorem y_ld_sim (h : y_ld nx lv st w i = some (q, s')) (hl : Lr lv lv1) : Sim (am_ld nx lv1 (st.map lV) (lW w) i) s' := by
  unfold y_ld at h
  split at h
  · rename_i x hx
    cases h
    refine ⟨none, lv1, ?_, trivial, hl⟩
    unfold am_ld
    rw [hl.2 _ _ hx]
    rfl
  · cases h
theorem y_ldl_sim (h : y_ldl nx lv st w i = some (q, s')) (hl : Lr lv lv1) : Sim (am_ldl nx lv1 (st.map lV) (lW w) i) s' := by
  unfold y_ldl at h
  split at h
  · rename_i x hx
    cases h
    refine ⟨none, lv1, ?_, trivial, hl⟩
    unfold am_ldl
    rw [hl.2 _ _ hx]
    rfl
  · cases h
theorem y_lda_sim (h : y_lda nx lv st w i = some (q, s')) (hl : Lr lv lv1) : Sim (am_lda nx lv1 (st.map lV) (lW w) i) s' := by
  unfold y_lda at h
  split at h
  · rename_i x hx
    cases h
    refine ⟨none, lv1, ?_, trivial, hl⟩
    unfold am_lda
    rw [hl.2 _ _ hx]
    rfl
  · cases h
theorem y_sti_sim (h : y_sti nx lv st w i = some (q, s')) (hl : Lr lv lv1) : Sim (am_sti nx lv1 (st.map lV) (lW w) i) s' := by
  unfold y_sti at h
  split at h
  · rename_i x r
    cases hb : Nat.blt i lv.length with
    | false => rw [hb] at h; cases h
    | true =>
      rw [hb] at h
      cases h
      refine ⟨none, _, ?_, trivial, hl.st1 i (.inl x)⟩
      show cond (Nat.blt i lv1.length) _ _ = _
      rw [← hl.1, hb]
      rfl
  · cases h
theorem y_sta_sim (h : y_sta nx lv st w i = some (q, s')) (hl : Lr lv lv1) : Sim (am_sta nx lv1 (st.map lV) (lW w) i) s' := by
  unfold y_sta at h
  split at h
  · rename_i x r
    cases hb : Nat.blt i lv.length with
    | false => rw [hb] at h; cases h
    | true =>
      rw [hb] at h
      cases h
      refine ⟨none, _, ?_, trivial, hl.st1 i (.inr (.inr x))⟩
      show cond (Nat.blt i lv1.length) _ _ = _
      rw [← hl.1, hb]
      rfl
  · cases h
theorem y_stl_sim (h : y_stl nx lv st w i = some (q, s')) (hl : Lr lv lv1) : Sim (am_stl nx lv1 (st.map lV) (lW w) i) s' := by
  unfold y_stl at h
  split at h
  · rename_i x r
    cases hb : Nat.blt (i + 1) lv.length with
    | false => rw [hb] at h; cases h
    | true =>
      rw [hb] at h
      cases h
      refine ⟨none, _, ?_, trivial, hl.st2 i (.inr (.inl x))⟩
      show cond (Nat.blt (i + 1) lv1.length) _ _ = _
      rw [← hl.1, hb]
      rfl
  · cases h
theorem y_ii_sim {qf : Int → Int → Option Prop} {f : Int → Int → Int} {g : Int32 → Int32 → Int32} (hfg : ∀ x y, am_h (qf x y) → g (Int32.ofInt x) (Int32.ofInt y) = Int32.ofInt (f x y))
    (h : y_ii nx lv st w qf f = some (q, s')) (hq : am_h q) (hl : Lr lv lv1) : Sim (am_ii nx lv1 (st.map lV) (lW w) g) s' := by
  unfold y_ii at h
  split at h
  · rename_i y x r
    cases h
    refine ⟨none, lv1, ?_, trivial, hl⟩
    show some (none, nx, lv1, Value.int (g (Int32.ofInt x) (Int32.ofInt y)) :: r.map lV, lW w) = _
    rw [hfg x y hq]
    rfl
  · cases h
theorem y_dv_sim {qf : Int → Int → Option Prop} {f : Int → Int → Int} {g : Int32 → Int32 → Int32} (hfg : ∀ x y, am_h (qf x y) → g (Int32.ofInt x) (Int32.ofInt y) = Int32.ofInt (f x y)) (h0 : ∀ x y, am_h (qf x y) → ¬ Int32.ofInt y = 0)
    (h : y_ii nx lv st w qf f = some (q, s')) (hq : am_h q) (hl : Lr lv lv1) : Sim (am_dv nx lv1 (st.map lV) (lW w) g) s' := by
  unfold y_ii at h
  split at h
  · rename_i y x r
    cases h
    refine ⟨some (¬ Int32.ofInt y = 0), lv1, ?_, h0 x y hq, hl⟩
    show some (some (¬ Int32.ofInt y = 0), nx, lv1, Value.int (g (Int32.ofInt x) (Int32.ofInt y)) :: r.map lV, lW w) = _
    rw [hfg x y hq]
    rfl
  · cases h
theorem y_ll_sim {qf : Int → Int → Option Prop} {f : Int → Int → Int} {g : Int64 → Int64 → Int64} (hfg : ∀ x y, am_h (qf x y) → g (Int64.ofInt x) (Int64.ofInt y) = Int64.ofInt (f x y))
    (h : y_ll nx lv st w qf f = some (q, s')) (hq : am_h q) (hl : Lr lv lv1) : Sim (am_ll nx lv1 (st.map lV) (lW w) g) s' := by
  unfold y_ll at h
  split at h
  · rename_i y x r
    cases h
    refine ⟨none, lv1, ?_, trivial, hl⟩
    show some (none, nx, lv1, Value.long (g (Int64.ofInt x) (Int64.ofInt y)) :: r.map lV, lW w) = _
    rw [hfg x y hq]
    rfl
  · cases h
theorem y_dvl_sim {qf : Int → Int → Option Prop} {f : Int → Int → Int} {g : Int64 → Int64 → Int64} (hfg : ∀ x y, am_h (qf x y) → g (Int64.ofInt x) (Int64.ofInt y) = Int64.ofInt (f x y)) (h0 : ∀ x y, am_h (qf x y) → ¬ Int64.ofInt y = 0)
    (h : y_ll nx lv st w qf f = some (q, s')) (hq : am_h q) (hl : Lr lv lv1) : Sim (am_dvl nx lv1 (st.map lV) (lW w) g) s' := by
  unfold y_ll at h
  split at h
  · rename_i y x r
    cases h
    refine ⟨some (¬ Int64.ofInt y = 0), lv1, ?_, h0 x y hq, hl⟩
    show some (some (¬ Int64.ofInt y = 0), nx, lv1, Value.long (g (Int64.ofInt x) (Int64.ofInt y)) :: r.map lV, lW w) = _
    rw [hfg x y hq]
    rfl
  · cases h
theorem y_i1_sim {qf : Int → Option Prop} {f : Int → V2} {g : Int32 → Value} (hfg : ∀ x, am_h (qf x) → g (Int32.ofInt x) = lV (f x))
    (h : y_i1 nx lv st w qf f = some (q, s')) (hq : am_h q) (hl : Lr lv lv1) : Sim (am_i1 nx lv1 (st.map lV) (lW w) g) s' := by
  unfold y_i1 at h
  split at h
  · rename_i x r
    cases h
    refine ⟨none, lv1, ?_, trivial, hl⟩
    show some (none, nx, lv1, g (Int32.ofInt x) :: r.map lV, lW w) = _
    rw [hfg x hq]
    rfl
  · cases h
theorem y_l1_sim {qf : Int → Option Prop} {f : Int → V2} {g : Int64 → Value} (hfg : ∀ x, am_h (qf x) → g (Int64.ofInt x) = lV (f x))
    (h : y_l1 nx lv st w qf f = some (q, s')) (hq : am_h q) (hl : Lr lv lv1) : Sim (am_l1 nx lv1 (st.map lV) (lW w) g) s' := by
  unfold y_l1 at h
  split at h
  · rename_i x r
    cases h
    refine ⟨none, lv1, ?_, trivial, hl⟩
    show some (none, nx, lv1, g (Int64.ofInt x) :: r.map lV, lW w) = _
    rw [hfg x hq]
    rfl
  · cases h
theorem y_l2i_sim {o : Nat} (h : y_l2i o nx lv st w = some (q, s')) (hq : am_h q) (hl : Lr lv lv1) : Sim (am_l1 nx lv1 (st.map lV) (lW w) (fun x => .int x.toInt32)) s' := by
  unfold y_l2i at h
  split at h
  · exact y_l1_sim (fun x _ => by simp [lV]) h hq hl
  · exact y_l1_sim (fun x _ => by simp only [lV, y_cI]) h hq hl
theorem y_br_sim {R : Prop} {c : Prop × Prop} {c' : Prop × Prop} {o a : Nat} {r : List V2} (hc : R → (c.1 → c'.1) ∧ (c.2 → c'.2)) (h : y_br R c o nx a lv r w = some (q, s')) (hq : am_h q) (hl : Lr lv lv1) : Sim (am_br c' o nx a lv1 (r.map lV) (lW w)) s' := by
  unfold y_br at h
  split at h
  · cases h
    exact ⟨_, lv1, rfl, (hc hq.1).2 hq.2, hl⟩
  · cases h
    exact ⟨_, lv1, rfl, (hc hq.1).1 hq.2, hl⟩
theorem y_q1_ok {c : ClassFile.Cond} {x : Int} (h : R32 x) : ((y_q1 c x).1 → (am_q1 c (Int32.ofInt x)).1) ∧ ((y_q1 c x).2 → (am_q1 c (Int32.ofInt x)).2) := by
  cases c <;> simp only [y_q1, am_q1, y_0, y_lt h y_r0, y_lt y_r0 h, y_le h y_r0, y_le y_r0 h, y_eq h y_r0] <;> exact ⟨id, id⟩
theorem y_q2_ok {c : ClassFile.Cond} {x y : Int} (h : R32 x) (h2 : R32 y) : ((y_q2 c x y).1 → (am_q2 c (Int32.ofInt x) (Int32.ofInt y)).1) ∧ ((y_q2 c x y).2 → (am_q2 c (Int32.ofInt x) (Int32.ofInt y)).2) := by
  cases c <;> simp only [y_q2, am_q2, y_lt h h2, y_lt h2 h, y_le h h2, y_le h2 h, y_eq h h2] <;> exact ⟨id, id⟩
theorem y_if_sim {c : ClassFile.Cond} {o a : Nat} (h : y_if c o nx a lv st w = some (q, s')) (hq : am_h q) (hl : Lr lv lv1) : Sim (am_if c o nx a lv1 (st.map lV) (lW w)) s' := by
  unfold y_if at h
  split at h
  · exact y_br_sim (fun hr => y_q1_ok hr) h hq hl
  · cases h
theorem y_icmp_sim {c : ClassFile.Cond} {o a : Nat} (h : y_icmp c o nx a lv st w = some (q, s')) (hq : am_h q) (hl : Lr lv lv1) : Sim (am_icmp c o nx a lv1 (st.map lV) (lW w)) s' := by
  unfold y_icmp at h
  split at h
  · exact y_br_sim (fun hr => y_q2_ok hr.1 hr.2) h hq hl
  · cases h
theorem y_to_sim {z : Int} {P P' : Prop} {r : List V2} (hp : P → P') (h : y_to z P lv r w = some (q, s')) (hq : am_h q) (hl : Lr lv lv1) : Sim (am_to z P' lv1 (r.map lV) (lW w)) s' := by
  unfold y_to at h
  split at h
  · cases h
    exact ⟨_, lv1, rfl, hp hq, hl⟩
  · cases h
theorem y_tsw_sim {df lo hi : Int} {offs : Array Int} {o pc : Nat} (h : y_tsw df lo hi offs o pc lv st w = some (q, s')) (hq : am_h q) (hl : Lr lv lv1) : Sim (am_tsw df lo hi offs o pc lv1 (st.map lV) (lW w)) s' := by
  unfold y_tsw at h
  split at h
  · rename_i x r
    split at h
    · exact y_to_sim (fun hp => by rw [y_ti hp.1]; exact hp.2) h hq hl
    · rename_i j
      split at h
      · rename_i z hz
        show Sim (match offs[j]? with | some z => _ | none => none) s'
        rw [hz]
        exact y_to_sim (fun hp => by rw [y_ti hp.1]; exact hp.2) h hq hl
      · cases h
  · cases h
theorem y_lsw_sim {df z : Int} {ps : Array (Int × Int)} {pc : Nat} (h : y_lsw df ps z pc lv st w = some (q, s')) (hq : am_h q) (hl : Lr lv lv1) : Sim (am_lsw df ps z pc lv1 (st.map lV) (lW w)) s' := by
  unfold y_lsw at h
  split at h
  · rename_i x r
    exact y_to_sim (fun hp => by rw [y_ti hp.1]; exact hp.2) h hq hl
  · cases h
theorem y_get_sim {c k o : Nat} (h : y_get c k o nx lv st w = some (q, s')) (hq : am_h q) (hl : Lr lv lv1) : Sim (am_get c k o nx lv1 (st.map lV) (lW w)) s' := by
  unfold y_get at h
  split at h
  · rename_i p r
    split at h
    · rename_i hi
      cases h
      refine ⟨_, lv1, ?_, hq, hl⟩
      show (match am_isI c k with | true => _ | false => _) = _
      rw [hi]
      rfl
    · rename_i hi
      cases h
      refine ⟨_, lv1, ?_, hq, hl⟩
      show (match am_isI c k with | true => _ | false => _) = _
      rw [hi]
      rfl
  · cases h
theorem y_b1 {x : Int} (h : x = 0 ∨ x = 1) : Int32.ofInt x &&& 1 = Int32.ofInt x := by
  rcases h with rfl | rfl <;> decide
theorem y_put_sim {c k : Nat} (h : y_put c k nx lv st w = some (q, s')) (hq : am_h q) (hl : Lr lv lv1) : Sim (am_put c k nx lv1 (st.map lV) (lW w)) s' := by
  unfold y_put at h
  split at h
  · rename_i hi
    split at h
    · rename_i x p r
      cases h
      refine ⟨some (p < w.1.1 ∧ sh p = (1, c) ∧ (am_isZ c k = true → Int32.ofInt x &&& 1 = Int32.ofInt x)), lv1, ?_, ⟨hq.1, hq.2.1, fun hz => y_b1 (hq.2.2 hz)⟩, hl⟩
      unfold am_put
      rw [hi]
      show some (_, nx, lv1, r.map lV, (w.1, am_up (lW w).2.1 p k (Int32.ofInt x), (lW w).2.2)) = some (_, nx, lv1, r.map lV, (w.1, _, _))
      rw [y_up]
      rfl
    · cases h
  · rename_i hi
    split at h
    · rename_i x p r
      cases h
      refine ⟨some (p < w.1.1 ∧ sh p = (1, c)), lv1, ?_, hq, hl⟩
      unfold am_put
      rw [hi]
      rfl
    · cases h
theorem y_iald_sim {o : Nat} (h : y_iald o nx lv st w = some (q, s')) (hq : am_h q) (hl : Lr lv lv1) : Sim (am_iald o nx lv1 (st.map lV) (lW w)) s' := by
  unfold y_iald at h
  split at h
  · rename_i i p r
    split at h
    · cases h
      obtain ⟨a1, a2, a3, a4⟩ := hq
      have hr := y_rsh a3 a4
      refine ⟨some (p < w.1.1 ∧ (sh p).1 = 2 ∧ vp_in (Int32.ofInt i) (sh p).2), lv1, ?_, ⟨a1, a2, y_in hr a3 a4⟩, hl⟩
      show some (_, nx, lv1, Value.int (Int32.ofInt (w.2.1 p (Int32.ofInt i).toNatClampNeg)) :: r.map lV, lW w) = _
      rw [y_cl hr]
      rfl
    · cases h
      obtain ⟨a1, hr, a3, a4⟩ := hq
      refine ⟨some (p = 9999 ∧ vp_in (Int32.ofInt i) w.1.2.2), lv1, ?_, ⟨a1, y_in hr a3 a4⟩, hl⟩
      show some (_, nx, lv1, Value.int (Int32.ofInt (w.2.1 p (Int32.ofInt i).toNatClampNeg)) :: r.map lV, lW w) = _
      rw [y_cl hr]
      rfl
  · cases h
theorem y_zald_sim (h : y_zald nx lv st w = some (q, s')) (hq : am_h q) (hl : Lr lv lv1) : Sim (am_zald nx lv1 (st.map lV) (lW w)) s' := by
  unfold y_zald at h
  split at h
  · rename_i i p r
    cases h
    obtain ⟨a1, a2, a3, a4⟩ := hq
    have hr := y_rsh a3 a4
    refine ⟨some (p < w.1.1 ∧ (sh p).1 = 3 ∧ vp_in (Int32.ofInt i) (sh p).2), lv1, ?_, ⟨a1, a2, y_in hr a3 a4⟩, hl⟩
    show some (_, nx, lv1, Value.int (Int32.ofInt (w.2.1 p (Int32.ofInt i).toNatClampNeg)) :: r.map lV, lW w) = _
    rw [y_cl hr]
    rfl
  · cases h
theorem y_lald_sim (h : y_lald nx lv st w = some (q, s')) (hq : am_h q) (hl : Lr lv lv1) : Sim (am_lald nx lv1 (st.map lV) (lW w)) s' := by
  unfold y_lald at h
  split at h
  · rename_i i p r
    cases h
    obtain ⟨a1, a2, a3, a4⟩ := hq
    have hr := y_rsh a3 a4
    refine ⟨some (p < w.1.1 ∧ (sh p).1 = 4 ∧ vp_in (Int32.ofInt i) (sh p).2), lv1, ?_, ⟨a1, a2, y_in hr a3 a4⟩, hl⟩
    show some (_, nx, lv1, Value.long (Int64.ofInt (w.2.2.1 p (Int32.ofInt i).toNatClampNeg)) :: r.map lV, lW w) = _
    rw [y_cl hr]
    rfl
  · cases h
theorem y_aald_sim {o : Nat} (h : y_aald o nx lv st w = some (q, s')) (hq : am_h q) (hl : Lr lv lv1) : Sim (am_aald o nx lv1 (st.map lV) (lW w)) s' := by
  unfold y_aald at h
  split at h
  · rename_i i p r
    cases h
    obtain ⟨a1, a2, ⟨a3, a4⟩, a5⟩ := hq
    have hr := y_rsh a3 a4
    refine ⟨some (p < w.1.1 ∧ ((sh p).1 = 5 ∨ (sh p).1 = 6 ∨ (sh p).1 = 7) ∧ vp_in (Int32.ofInt i) (sh p).2 ∧ w.2.2.2 p (Int32.ofInt i).toNatClampNeg = some o), lv1, rfl, ⟨a1, a2, y_in hr a3 a4, by rw [y_cl hr]; exact a5⟩, hl⟩
  · cases h
theorem y_iast_sim (h : y_iast nx lv st w = some (q, s')) (hq : am_h q) (hl : Lr lv lv1) : Sim (am_iast nx lv1 (st.map lV) (lW w)) s' := by
  unfold y_iast at h
  split at h
  · rename_i x i p r
    cases h
    obtain ⟨a1, a2, a3, a4⟩ := hq
    have hr := y_rsh a3 a4
    refine ⟨some (p < w.1.1 ∧ (sh p).1 = 2 ∧ vp_in (Int32.ofInt i) (sh p).2), lv1, ?_, ⟨a1, a2, y_in hr a3 a4⟩, hl⟩
    show some (_, nx, lv1, r.map lV, (w.1, am_up (lW w).2.1 p (Int32.ofInt i).toNatClampNeg (Int32.ofInt x), (lW w).2.2)) = some (_, nx, lv1, r.map lV, (w.1, _, _))
    rw [y_up, y_cl hr]
    rfl
  · cases h
theorem y_zast_sim (h : y_zast nx lv st w = some (q, s')) (hq : am_h q) (hl : Lr lv lv1) : Sim (am_zast nx lv1 (st.map lV) (lW w)) s' := by
  unfold y_zast at h
  split at h
  · rename_i x i p r
    cases h
    obtain ⟨a1, a2, ⟨a3, a4⟩, a5⟩ := hq
    have hr := y_rsh a3 a4
    refine ⟨some (p < w.1.1 ∧ (sh p).1 = 3 ∧ vp_in (Int32.ofInt i) (sh p).2 ∧ Int32.ofInt x &&& 1 = Int32.ofInt x), lv1, ?_, ⟨a1, a2, y_in hr a3 a4, y_b1 a5⟩, hl⟩
    show some (_, nx, lv1, r.map lV, (w.1, am_up (lW w).2.1 p (Int32.ofInt i).toNatClampNeg (Int32.ofInt x), (lW w).2.2)) = some (_, nx, lv1, r.map lV, (w.1, _, _))
    rw [y_up, y_cl hr]
    rfl
  · cases h
theorem y_last_sim (h : y_last nx lv st w = some (q, s')) (hq : am_h q) (hl : Lr lv lv1) : Sim (am_last nx lv1 (st.map lV) (lW w)) s' := by
  unfold y_last at h
  split at h
  · rename_i x i p r
    cases h
    obtain ⟨a1, a2, a3, a4⟩ := hq
    have hr := y_rsh a3 a4
    refine ⟨some (p < w.1.1 ∧ (sh p).1 = 4 ∧ vp_in (Int32.ofInt i) (sh p).2), lv1, ?_, ⟨a1, a2, y_in hr a3 a4⟩, hl⟩
    show some (_, nx, lv1, r.map lV, (w.1, (lW w).2.1, am_up (lW w).2.2.1 p (Int32.ofInt i).toNatClampNeg (Int64.ofInt x), (lW w).2.2.2)) = some (_, nx, lv1, r.map lV, (w.1, _, _, _))
    rw [y_upj, y_cl hr]
    rfl
  · cases h
theorem y_aast_sim (h : y_aast nx lv st w = some (q, s')) (hq : am_h q) (hl : Lr lv lv1) : Sim (am_aast nx lv1 (st.map lV) (lW w)) s' := by
  unfold y_aast at h
  split at h
  · rename_i x i p r
    cases h
    obtain ⟨a1, a2, a5, a3, a4⟩ := hq
    have hr := y_rsh a3 a4
    refine ⟨some (p < w.1.1 ∧ x < w.1.1 ∧ (((sh p).1 = 6 ∧ sh x = (1, 4)) ∨ ((sh p).1 = 7 ∧ sh x = (1, 3))) ∧ vp_in (Int32.ofInt i) (sh p).2), lv1, ?_, ⟨a1, a2, a5, y_in hr a3 a4⟩, hl⟩
    show some (_, nx, lv1, r.map lV, (w.1, (lW w).2.1, (lW w).2.2.1, am_up w.2.2.2 p (Int32.ofInt i).toNatClampNeg (some x))) = some (_, nx, lv1, r.map lV, (w.1, _, _, _))
    rw [y_cl hr]
    rfl
  · cases h
theorem y_len_sim (h : y_len nx lv st w = some (q, s')) (hq : am_h q) (hl : Lr lv lv1) : Sim (am_len 0 nx lv1 (st.map lV) (lW w)) s' := by
  unfold y_len at h
  split at h
  · rename_i p r
    cases h
    refine ⟨some (p = 9999), lv1, ?_, hq, hl⟩
    show some (_, nx, lv1, Value.int (Int32.ofNat w.1.2.2) :: r.map lV, lW w) = some (_, nx, lv1, Value.int (Int32.ofInt (w.1.2.2 : Int)) :: r.map lV, lW w)
    rw [Int32.ofInt_eq_ofNat]
  · cases h
theorem y_mk_eq (w : W2) (n : Nat) : lW (y_mk w n) = am_mk (lW w) n := by
  unfold lW y_mk am_mk
  simp only [y_row Int32.ofInt, y_row Int64.ofInt]
  rfl
theorem y_mk2_eq (w : W2) : lW (y_mk2 w) = am_mk2 (lW w) := by
  unfold lW y_mk2 am_mk2
  simp only [y_rows Int32.ofInt, y_rows Int64.ofInt]
  rfl
theorem y_newa_sim {a : Nat} (h : y_newa a nx lv st w = some (q, s')) (hq : am_h q) (hl : Lr lv lv1) : Sim (am_newa a nx lv1 (st.map lV) (lW w)) s' := by
  unfold y_newa at h
  split at h
  · rename_i n r
    cases h
    obtain ⟨a1, a2, a3, a4⟩ := hq
    have hr : R32 n := ⟨by omega, by omega⟩
    refine ⟨some (w.1.1 < am_NP ∧ ¬ Int32.ofInt n < 0 ∧ sh w.1.1 = (a, (Int32.ofInt n).toNatClampNeg) ∧ (Int32.ofInt n).toNatClampNeg ≤ 1000), lv1, ?_, ⟨a1, ?_, ?_, ?_⟩, hl⟩
    · show some (_, nx, lv1, Value.ref w.1.1 :: r.map lV, am_mk (lW w) (Int32.ofInt n).toNatClampNeg) = some (_, nx, lv1, Value.ref w.1.1 :: r.map lV, lW (y_mk w n.toNat))
      rw [y_mk_eq, y_cl hr]
      rfl
    · rw [y_0, y_lt hr y_r0]; omega
    · rw [y_cl hr]; exact a3
    · rw [y_cl hr]; omega
  · cases h
theorem y_new_sim {a : Nat} (h : y_new a nx lv st w = some (q, s')) (hq : am_h q) (hl : Lr lv lv1) : Sim (am_new a nx lv1 (st.map lV) (lW w)) s' := by
  unfold y_new at h
  cases h
  refine ⟨some (w.1.1 < am_NP ∧ sh w.1.1 = (1, a)), lv1, ?_, hq, hl⟩
  show some (_, nx, lv1, Value.ref w.1.1 :: st.map lV, am_mk (lW w) (am_N a)) = some (_, nx, lv1, Value.ref w.1.1 :: st.map lV, lW (y_mk w (am_N a)))
  rw [y_mk_eq]
  rfl
theorem y_mna_sim (h : y_mna nx lv st w = some (q, s')) (hq : am_h q) (hl : Lr lv lv1) : Sim (am_mna nx lv1 (st.map lV) (lW w)) s' := by
  unfold y_mna at h
  split at h
  · rename_i m n r
    cases h
    obtain ⟨a1, rfl, rfl, a4, a5⟩ := hq
    refine ⟨some (w.1.1 + 9 ≤ am_NP ∧ Int32.ofInt 8 = 8 ∧ Int32.ofInt 6 = 6 ∧ sh w.1.1 = (5, 8) ∧ ∀ i, i < 8 → sh (w.1.1 + 1 + i) = (2, 6)), lv1, ?_, ⟨a1, rfl, rfl, a4, a5⟩, hl⟩
    show some (_, nx, lv1, Value.ref w.1.1 :: r.map lV, am_mk2 (lW w)) = some (_, nx, lv1, Value.ref w.1.1 :: r.map lV, lW (y_mk2 w))
    rw [y_mk2_eq]
    rfl
  · cases h
theorem y_dup_sim (h : y_dup nx lv st w = some (q, s')) (hl : Lr lv lv1) : Sim (am_dup nx lv1 (st.map lV) (lW w)) s' := by
  unfold y_dup at h
  split at h
  · cases h
    exact ⟨none, lv1, rfl, trivial, hl⟩
  · cases h
    exact ⟨none, lv1, rfl, trivial, hl⟩
  · cases h
theorem y_dup2_sim (h : y_dup2 nx lv st w = some (q, s')) (hl : Lr lv lv1) : Sim (am_dup2 nx lv1 (st.map lV) (lW w)) s' := by
  unfold y_dup2 at h
  split at h
  · cases h
    exact ⟨none, lv1, rfl, trivial, hl⟩
  · cases h
theorem y_pop_sim (h : y_pop nx lv st w = some (q, s')) (hl : Lr lv lv1) : Sim (am_pop nx lv1 (st.map lV) (lW w)) s' := by
  unfold y_pop at h
  split at h
  · cases h
    exact ⟨none, lv1, rfl, trivial, hl⟩
  · cases h
theorem y_cp_sim {o : Nat} (h : y_cp o nx lv st w = some (q, s')) (hq : am_h q) (hl : Lr lv lv1) : Sim (am_cpy o nx lv1 (st.map lV) (lW w)) s' := by
  unfold y_cp at h
  split at h
  · rename_i n dp q' sp p r
    split at h
    · cases h
      obtain ⟨a1, a2, a3, a4, a5, b1, b2, b3, b4, b5⟩ := hq
      have l1 := sh_lt p
      have l2 := sh_lt q'
      have r1 : R32 sp := ⟨by omega, by omega⟩
      have r2 : R32 dp := ⟨by omega, by omega⟩
      have r3 : R32 n := ⟨by omega, by omega⟩
      refine ⟨some (am_NP ≤ w.1.1 ∧ p < w.1.1 ∧ q' < w.1.1 ∧ (sh p).1 = 2 ∧ (sh q').1 = 2 ∧ ¬ Int32.ofInt sp < 0 ∧ ¬ Int32.ofInt dp < 0 ∧ ¬ Int32.ofInt n < 0 ∧ (Int32.ofInt sp).toNatClampNeg + (Int32.ofInt n).toNatClampNeg ≤ (sh p).2 ∧ (Int32.ofInt dp).toNatClampNeg + (Int32.ofInt n).toNatClampNeg ≤ (sh q').2), lv1, ?_, ⟨a1, a2, a3, a4, a5, ?_, ?_, ?_, ?_, ?_⟩, hl⟩
      · show some (_, nx, lv1, r.map lV, (w.1, am_row (lW w).2.1 q' (va_cpy ((lW w).2.1 p) ((lW w).2.1 q') (Int32.ofInt sp).toNatClampNeg (Int32.ofInt dp).toNatClampNeg (Int32.ofInt n).toNatClampNeg), (lW w).2.2)) = some (_, nx, lv1, r.map lV, (w.1, _, _))
        rw [y_row Int32.ofInt, y_cpy Int32.ofInt, y_cl r1, y_cl r2, y_cl r3]
        rfl
      · rw [y_0, y_lt r1 y_r0]; omega
      · rw [y_0, y_lt r2 y_r0]; omega
      · rw [y_0, y_lt r3 y_r0]; omega
      · rw [y_cl r1, y_cl r3]; omega
      · rw [y_cl r2, y_cl r3]; omega
    · cases h
      obtain ⟨a1, a2, a3, a4, a5, b1, b2, b3, b4, b5⟩ := hq
      have l1 := sh_lt p
      have l2 := sh_lt q'
      have r1 : R32 sp := ⟨by omega, by omega⟩
      have r2 : R32 dp := ⟨by omega, by omega⟩
      have r3 : R32 n := ⟨by omega, by omega⟩
      refine ⟨some (am_NP ≤ w.1.1 ∧ p < w.1.1 ∧ q' < w.1.1 ∧ (sh p).1 = 4 ∧ (sh q').1 = 4 ∧ ¬ Int32.ofInt sp < 0 ∧ ¬ Int32.ofInt dp < 0 ∧ ¬ Int32.ofInt n < 0 ∧ (Int32.ofInt sp).toNatClampNeg + (Int32.ofInt n).toNatClampNeg ≤ (sh p).2 ∧ (Int32.ofInt dp).toNatClampNeg + (Int32.ofInt n).toNatClampNeg ≤ (sh q').2), lv1, ?_, ⟨a1, a2, a3, a4, a5, ?_, ?_, ?_, ?_, ?_⟩, hl⟩
      · show some (_, nx, lv1, r.map lV, (w.1, (lW w).2.1, am_row (lW w).2.2.1 q' (va_cpy ((lW w).2.2.1 p) ((lW w).2.2.1 q') (Int32.ofInt sp).toNatClampNeg (Int32.ofInt dp).toNatClampNeg (Int32.ofInt n).toNatClampNeg), (lW w).2.2.2)) = some (_, nx, lv1, r.map lV, (w.1, _, _, _))
        rw [y_row Int64.ofInt, y_cpy Int64.ofInt, y_cl r1, y_cl r2, y_cl r3]
        rfl
      · rw [y_0, y_lt r1 y_r0]; omega
      · rw [y_0, y_lt r2 y_r0]; omega
      · rw [y_0, y_lt r3 y_r0]; omega
      · rw [y_cl r1, y_cl r3]; omega
      · rw [y_cl r2, y_cl r3]; omega
  · cases h
theorem y_str_ok (j : Nat) : am_str j = (y_str j).map Int32.ofInt := match j with
  | 0 => rfl
  | 1 => rfl
  | 2 => rfl
  | _ + 3 => rfl
theorem y_slen_ok (j : Nat) : am_slen j = Int32.ofInt (y_slen j) := match j with
  | 0 => rfl
  | 1 => rfl
  | 2 => rfl
  | _ + 3 => rfl
theorem y_str_len (j : Nat) : (y_str j).length < 1000 := by
  unfold y_str
  split <;> decide
theorem y_vcall_sim {b o : Nat} (h : y_vcall b o nx lv st w = some (q, s')) (hq : am_h q) (hl : Lr lv lv1) : Sim (am_vcall b o nx lv1 (st.map lV) (lW w)) s' := by
  unfold y_vcall at h
  split at h
  · split at h
    · rename_i p r
      cases h
      refine ⟨some (p = 9990 + o ∧ o < 4), lv1, ?_, hq, hl⟩
      show some (_, nx, lv1, Value.int (am_slen o) :: r.map lV, lW w) = _
      rw [y_slen_ok]
      rfl
    · cases h
  · split at h
    · rename_i i p r
      cases h
      obtain ⟨a1, a2, a3, a4⟩ := hq
      have := y_str_len o
      have hr : R32 i := ⟨by omega, by omega⟩
      refine ⟨some (p = 9990 + o ∧ o < 4 ∧ vp_in (Int32.ofInt i) (am_str o).length), lv1, ?_, ⟨a1, a2, y_in hr a3 (by rw [y_str_ok, List.length_map]; exact a4)⟩, hl⟩
      show some (_, nx, lv1, Value.int ((am_str o).getD (Int32.ofInt i).toNatClampNeg 0) :: r.map lV, lW w) = some (_, nx, lv1, Value.int (Int32.ofInt ((y_str o).getD i.toNat 0)) :: r.map lV, lW w)
      rw [y_cl hr, y_str_ok]
      have e : (List.map Int32.ofInt (y_str o)).getD i.toNat 0 = Int32.ofInt ((y_str o).getD i.toNat 0) := by
        rw [List.getD_eq_getElem?_getD, List.getD_eq_getElem?_getD, List.getElem?_map]
        cases (y_str o)[i.toNat]? <;> rfl
      rw [e]
    · cases h
  · cases h
theorem y_scall_sim {b o : Nat} (h : y_scall b o nx lv st w = some (q, s')) (hq : am_h q) (hl : Lr lv lv1) : Sim (am_scall b o nx lv1 (st.map lV) (lW w)) s' := by
  unfold y_scall at h
  split at h
  · refine y_ii_sim (fun x y hc => ?_) h hq hl
    simp only [y_lt hc.1 hc.2]
    split <;> rfl
  · refine y_ii_sim (fun x y hc => ?_) h hq hl
    simp only [y_lt hc.2 hc.1]
    split <;> rfl
  · refine y_i1_sim (fun x hc => ?_) h hq hl
    simp only [y_0, y_le y_r0 hc]
    split
    · rfl
    · simp [lV]
  · refine y_ll_sim (fun x y hc => ?_) h hq hl
    simp only [y_ltj hc.2 hc.1]
    split <;> rfl
  · refine y_l1_sim (fun x hc => ?_) h hq hl
    simp only [y_0j, y_ltj y_r0j hc]
    split
    · rfl
    · simp [lV]
  · exact y_cp_sim h hq hl
  · cases h
theorem y_icall_sim {b : Nat} (h : y_icall b nx lv st w = some (q, s')) (hl : Lr lv lv1) : Sim (am_icall b nx lv1 (st.map lV) (lW w)) s' := by
  unfold y_icall at h
  split at h
  · split at h
    · cases h
      exact ⟨none, lv1, rfl, trivial, hl⟩
    · cases h
  · cases h
theorem y_sum_ok : ∀ (st : List V2), ((st.map lV).map fun v => v.category).sum = y_sum st
  | [] => rfl
  | v :: st => by
    show (lV v).category + ((st.map lV).map fun v => v.category).sum = y_cat v + y_sum st
    rw [y_sum_ok st]
    congr 1
    match v with
    | .inl z => rfl
    | .inr (.inl z) => rfl
    | .inr (.inr p) => rfl
theorem y_with_sim {a : YO} {a' : AO} (ha : ∀ q1 s1, a = some (q1, s1) → am_h q1 → Sim a' s1) (h : y_with (y_sum st ≤ 9) a = some (q, s')) (hq : am_h q) : Sim (am_with (am_few (st.map lV)) a') s' := by
  unfold y_with at h
  have hf : ∀ P : Prop, (P ∧ True → am_few (st.map lV)) → P → am_few (st.map lV) := fun P h p => h ⟨p, trivial⟩
  have hfew : y_sum st ≤ 9 → am_few (st.map lV) := fun h => by
    unfold am_few
    rw [y_sum_ok]
    exact h
  split at h
  · rename_i t
    cases h
    obtain ⟨q', lv', rfl, h2, h3⟩ := ha none _ rfl trivial
    cases q' with
    | none => exact ⟨_, lv', rfl, hfew hq, h3⟩
    | some q' => exact ⟨_, lv', rfl, ⟨hfew hq, h2⟩, h3⟩
  · rename_i q1 t
    cases h
    obtain ⟨q', lv', rfl, h2, h3⟩ := ha (some q1) _ rfl hq.2
    cases q' with
    | none => exact ⟨_, lv', rfl, hfew hq.1, h3⟩
    | some q' => exact ⟨_, lv', rfl, ⟨hfew hq.1, h2⟩, h3⟩
  · cases h
theorem y_iinc_sim {v : Value} (h : y_iinc nx i v lv st w = some (q, s')) (hl : Lr lv lv1) : Sim (am_iinc nx i v lv1 (st.map lV) (lW w)) s' := by
  unfold y_iinc at h
  split at h
  · rename_i x hx
    split at h
    · rename_i y
      cases h
      refine ⟨none, _, ?_, trivial, hl.st1 i (.inl (x + y.toInt))⟩
      unfold am_iinc
      rw [hl.2 _ _ hx]
      show some (none, nx, am_s1 lv1 i (.int (Int32.ofInt x + y)), st.map lV, lW w) = some (none, nx, am_s1 lv1 i (.int (Int32.ofInt (x + y.toInt))), st.map lV, lW w)
      rw [Int32.ofInt_add, y_cI]
    · cases h
  · cases h
theorem y_cmp_ok {x y : Int} (hx : R64 x) (hy : R64 y) : lg_cmp (Int64.ofInt x) (Int64.ofInt y) = Int32.ofInt (y_cmp x y) := by
  unfold lg_cmp y_cmp
  simp only [gt_iff_lt, y_ltj hy hx, y_eqj hx hy]
  split
  · rfl
  · split <;> rfl
theorem y_lshl_sim (h : y_lshl nx lv st w = some (q, s')) (hl : Lr lv lv1) : Sim (ax (.lshl, nx, 0, 0, 0, .null) 0 (0, lv1, st.map lV, lW w)) s' := by
  unfold y_lshl at h
  split at h
  · rename_i y x r
    cases h
    refine ⟨none, lv1, ?_, trivial, hl⟩
    show some (none, nx, lv1, Value.long (Int64.ofInt x <<< ((Int32.ofInt y).toInt64 &&& 63)) :: r.map lV, lW w) = some (none, nx, lv1, Value.long (Int64.ofInt (Int64.ofInt x <<< ((Int32.ofInt y).toInt64 &&& 63)).toInt) :: r.map lV, lW w)
    rw [y_cJ]
  · cases h
theorem y_lcmp_sim (h : y_lcmp nx lv st w = some (q, s')) (hq : am_h q) (hl : Lr lv lv1) : Sim (ax (.lcmp, nx, 0, 0, 0, .null) 0 (0, lv1, st.map lV, lW w)) s' := by
  unfold y_lcmp at h
  split at h
  · rename_i y x r
    cases h
    refine ⟨none, lv1, ?_, trivial, hl⟩
    show some (none, nx, lv1, Value.int (lg_cmp (Int64.ofInt x) (Int64.ofInt y)) :: r.map lV, lW w) = some (none, nx, lv1, Value.int (Int32.ofInt (y_cmp x y)) :: r.map lV, lW w)
    rcases hq with hq | rfl
    · rw [y_cmp_ok hq.1 hq.2]
    · unfold lg_cmp y_cmp
      simp
  · cases h
end SIM
theorem ay_sim {e : AE} {o pc : Nat} {lv : L2} {st : List V2} {w : W2} {q : Option Prop} {s' : S2} {lv1 : AL} (h : ay e o (pc, lv, st, w) = some (q, s')) (hq : am_h q) (hl : Lr lv lv1) : Sim (ax e o (pc, lv1, st.map lV, lW w)) s' := by
  obtain ⟨ins, nx, a, b, z, v⟩ := e
  cases ins with
  | iconst _ => exact y_c_sim h hl
  | bipush _ => exact y_c_sim h hl
  | sipush _ => exact y_c_sim h hl
  | lconst _ => exact y_c_sim h hl
  | ldc _ => exact y_c_sim h hl
  | ldc_w _ => exact y_c_sim h hl
  | ldc2_w _ => exact y_c_sim h hl
  | iload_n k => exact y_ld_sim h hl
  | iload k => exact y_ld_sim h hl
  | lload_n k => exact y_ldl_sim h hl
  | lload k => exact y_ldl_sim h hl
  | aload_n k => exact y_lda_sim h hl
  | istore_n k => exact y_sti_sim h hl
  | istore k => exact y_sti_sim h hl
  | lstore_n k => exact y_stl_sim h hl
  | lstore k => exact y_stl_sim h hl
  | astore_n k => exact y_sta_sim h hl
  | iinc k _ => exact y_iinc_sim h hl
  | iadd => exact y_ii_sim (fun x y _ => (Int32.ofInt_add x y).symm) h hq hl
  | isub => exact y_ii_sim (fun x y _ => (Int32.ofInt_sub x y).symm) h hq hl
  | imul => exact y_ii_sim (fun x y _ => (Int32.ofInt_mul x y).symm) h hq hl
  | iand => exact y_ii_sim (fun x y _ => (y_cI _).symm) h hq hl
  | ior => exact y_ii_sim (fun x y _ => (y_cI _).symm) h hq hl
  | ishl => exact y_ii_sim (fun x y _ => (y_cI _).symm) h hq hl
  | ishr => exact y_ii_sim (fun x y _ => (y_cI _).symm) h hq hl
  | iushr => exact y_ii_sim (fun x y _ => (y_cI _).symm) h hq hl
  | idiv => exact y_dv_sim (qf := fun x y => some (0 ≤ x ∧ x ≤ 2147483647 ∧ 0 < y ∧ y ≤ 2147483647)) (f := fun x y => x / y) (fun x y (c : 0 ≤ x ∧ x ≤ 2147483647 ∧ 0 < y ∧ y ≤ 2147483647) => y_div ⟨by have := c.1; omega, c.2.1⟩ ⟨by have := c.2.2.1; omega, c.2.2.2⟩ c.1) (fun x y (c : 0 ≤ x ∧ x ≤ 2147483647 ∧ 0 < y ∧ y ≤ 2147483647) => by
      rw [y_0, y_eq ⟨by have := c.2.2.1; omega, c.2.2.2⟩ y_r0]
      have := c.2.2.1
      omega) h hq hl
  | irem => exact y_dv_sim (qf := fun x y => some (0 ≤ x ∧ x ≤ 2147483647 ∧ 0 < y ∧ y ≤ 2147483647)) (f := fun x y => x % y) (fun x y (c : 0 ≤ x ∧ x ≤ 2147483647 ∧ 0 < y ∧ y ≤ 2147483647) => by
      rw [y_div ⟨by have := c.1; omega, c.2.1⟩ ⟨by have := c.2.2.1; omega, c.2.2.2⟩ c.1, ← Int32.ofInt_mul, ← Int32.ofInt_sub, Int.emod_def, Int.mul_comm]) (fun x y (c : 0 ≤ x ∧ x ≤ 2147483647 ∧ 0 < y ∧ y ≤ 2147483647) => by
      rw [y_0, y_eq ⟨by have := c.2.2.1; omega, c.2.2.2⟩ y_r0]
      have := c.2.2.1
      omega) h hq hl
  | ineg => exact y_i1_sim (fun x _ => by simp [lV]) h hq hl
  | i2l => exact y_i1_sim (qf := fun x => some (R32 x)) (f := fun x => .inr (.inl x)) (fun x (c : R32 x) => by
      have e : (Int32.ofInt x).toInt64 = Int64.ofInt x := by
        rw [← Int64.toInt_inj, Int32.toInt_toInt64, y_ti c, y_tj ⟨by have := c.1; omega, by have := c.2; omega⟩]
      simp only [lV, e]) h hq hl
  | i2b => exact y_i1_sim (fun x _ => by simp only [lV, y_cI]) h hq hl
  | i2s => exact y_i1_sim (fun x _ => by simp only [lV, y_cI]) h hq hl
  | l2i => exact y_l2i_sim h hq hl
  | lneg => exact y_l1_sim (fun x _ => by simp [lV]) h hq hl
  | ladd => exact y_ll_sim (fun x y _ => (Int64.ofInt_add x y).symm) h hq hl
  | lsub => exact y_ll_sim (fun x y _ => (Int64.ofInt_sub x y).symm) h hq hl
  | lmul => exact y_ll_sim (fun x y _ => (Int64.ofInt_mul x y).symm) h hq hl
  | land => exact y_ll_sim (fun x y _ => (y_cJ _).symm) h hq hl
  | lor => exact y_ll_sim (fun x y _ => (y_cJ _).symm) h hq hl
  | ldiv => exact y_dvl_sim (qf := fun x y => some (0 ≤ x ∧ x ≤ 9223372036854775807 ∧ 0 < y ∧ y ≤ 9223372036854775807)) (f := fun x y => x / y) (fun x y (c : 0 ≤ x ∧ x ≤ 9223372036854775807 ∧ 0 < y ∧ y ≤ 9223372036854775807) => y_divj ⟨by have := c.1; omega, c.2.1⟩ ⟨by have := c.2.2.1; omega, c.2.2.2⟩ c.1) (fun x y (c : 0 ≤ x ∧ x ≤ 9223372036854775807 ∧ 0 < y ∧ y ≤ 9223372036854775807) => by
      rw [y_0j, y_eqj ⟨by have := c.2.2.1; omega, c.2.2.2⟩ y_r0j]
      have := c.2.2.1
      omega) h hq hl
  | lrem => exact y_dvl_sim (qf := fun x y => some (0 ≤ x ∧ x ≤ 9223372036854775807 ∧ 0 < y ∧ y ≤ 9223372036854775807)) (f := fun x y => x % y) (fun x y (c : 0 ≤ x ∧ x ≤ 9223372036854775807 ∧ 0 < y ∧ y ≤ 9223372036854775807) => by
      rw [y_divj ⟨by have := c.1; omega, c.2.1⟩ ⟨by have := c.2.2.1; omega, c.2.2.2⟩ c.1, ← Int64.ofInt_mul, ← Int64.ofInt_sub, Int.emod_def, Int.mul_comm]) (fun x y (c : 0 ≤ x ∧ x ≤ 9223372036854775807 ∧ 0 < y ∧ y ≤ 9223372036854775807) => by
      rw [y_0j, y_eqj ⟨by have := c.2.2.1; omega, c.2.2.2⟩ y_r0j]
      have := c.2.2.1
      omega) h hq hl
  | lshl => exact y_lshl_sim h hl
  | lcmp => exact y_lcmp_sim h hq hl
  | goto _ =>
    cases h
    exact ⟨none, lv1, rfl, trivial, hl⟩
  | ifCond c _ => exact y_if_sim h hq hl
  | if_icmp c _ => exact y_icmp_sim h hq hl
  | tableswitch df lo hi offs => exact y_tsw_sim h hq hl
  | lookupswitch df ps => exact y_lsw_sim h hq hl
  | getfield _ => exact y_get_sim h hq hl
  | putfield _ => exact y_put_sim h hq hl
  | iaload => exact y_iald_sim h hq hl
  | baload => exact y_zald_sim h hq hl
  | laload => exact y_lald_sim h hq hl
  | aaload => exact y_aald_sim h hq hl
  | iastore => exact y_iast_sim h hq hl
  | bastore => exact y_zast_sim h hq hl
  | lastore => exact y_last_sim h hq hl
  | aastore => exact y_aast_sim h hq hl
  | arraylength => exact y_len_sim h hq hl
  | newarray _ => exact y_newa_sim h hq hl
  | new _ => exact y_new_sim h hq hl
  | anewarray _ => exact y_newa_sim h hq hl
  | multianewarray _ _ => exact y_mna_sim h hq hl
  | dup => exact y_dup_sim h hl
  | dup2 => exact y_dup2_sim h hl
  | pop => exact y_pop_sim h hl
  | invokevirtual _ => exact y_with_sim (fun q1 s1 h1 hq1 => y_vcall_sim h1 hq1 hl) h hq
  | invokestatic _ => exact y_with_sim (fun q1 s1 h1 hq1 => y_scall_sim h1 hq1 hl) h hq
  | invokespecial _ => exact y_with_sim (fun q1 s1 h1 hq1 => y_icall_sim h1 hl) h hq
  | _ => cases h
/-! what a method comes to -/
def wp (d mid : Nat) (s : S2) (Q : Option V2 → W2 → Prop) : Prop := ∀ l1, Lr s.2.1 l1 → ∃ (v : Option V2) (w : W2), Runs d mid (s.1, l1, s.2.2.1.map lV, lW s.2.2.2) (v.map lV, lW w) ∧ Q v w
theorem wp.step {d mid : Nat} {m : AR} {e : AE} {s s' : S2} {o : Nat} {q : Option Prop} {Q : Option V2 → W2 → Prop} (h6 : am_lo mid ≤ d) (hm : am_all[mid]? = some m) (he : m.2.2.2.2.2.2.2 s.1 = some e) (hs : ay e o s = some (q, s')) (hq : am_h q) (k : wp d mid s' Q) : wp d mid s Q := by
  intro l1 hl
  obtain ⟨pc, lv, st, w⟩ := s
  obtain ⟨q', lv', h1, h2, h3⟩ := ay_sim hs hq hl
  obtain ⟨v, w1, hr, hQ⟩ := k lv' h3
  exact ⟨v, w1, Runs.step h6 hm he h1 h2 hr, hQ⟩
theorem ays_fwd {c : Nat → Option AE} : ∀ (os : List Nat) (P0 P : Prop) (s s' : S2), ays c os P0 s = some (P, s') → P → P0 := by
  intro os
  induction os with
  | nil =>
    intro P0 P s s' h hP
    simp only [ays, Option.some.injEq, Prod.mk.injEq] at h
    rw [h.1]; exact hP
  | cons o os ih =>
    intro P0 P s s' h hP
    simp only [ays] at h
    cases he : c s.1 with
    | none => simp [he] at h
    | some e =>
      simp only [he] at h
      cases hx : ay e o s with
      | none => simp [hx] at h
      | some y =>
        obtain ⟨q, s1⟩ := y
        cases q with
        | none => simp only [hx] at h; exact ih _ _ _ _ h hP
        | some q => simp only [hx] at h; exact (ih _ _ _ _ h hP).1
theorem wp.pathm {d mid : Nat} {m : AR} (h6 : am_lo mid ≤ d) (hm : am_all[mid]? = some m) {Q : Option V2 → W2 → Prop} : ∀ (os : List Nat) (P0 P : Prop) (s s' : S2), ays m.2.2.2.2.2.2.2 os P0 s = some (P, s') → P → wp d mid s' Q → wp d mid s Q := by
  intro os
  induction os with
  | nil =>
    intro P0 P s s' h hP k
    simp only [ays, Option.some.injEq, Prod.mk.injEq] at h
    rw [h.2]; exact k
  | cons o os ih =>
    intro P0 P s s' h hP k
    simp only [ays] at h
    cases he : m.2.2.2.2.2.2.2 s.1 with
    | none => simp [he] at h
    | some e =>
      simp only [he] at h
      cases hx : ay e o s with
      | none => simp [hx] at h
      | some y =>
        obtain ⟨q, s1⟩ := y
        cases q with
        | none =>
          simp only [hx] at h
          exact wp.step h6 hm he hx trivial (ih _ _ _ _ h hP k)
        | some q =>
          simp only [hx] at h
          exact wp.step h6 hm he hx (ays_fwd _ _ _ _ _ h hP).2 (ih _ _ _ _ h hP k)
/-- less of the locals is known -/
theorem wp.weak {d mid pc : Nat} {a b : L2} {st : List V2} {w : W2} {Q : Option V2 → W2 → Prop} (h : Lle a b) (k : wp d mid (pc, a, st, w) Q) : wp d mid (pc, b, st, w) Q := fun l1 hl => k l1 (h.lr hl)
theorem wp.mono {d mid : Nat} {s : S2} {Q Q' : Option V2 → W2 → Prop} (k : wp d mid s Q) (h : ∀ v w, Q v w → Q' v w) : wp d mid s Q' := fun l1 hl => by
  obtain ⟨v, w1, hr, hQ⟩ := k l1 hl
  exact ⟨v, w1, hr, h v w1 hQ⟩
theorem wp.deep {d d' mid : Nat} {s : S2} {Q : Option V2 → W2 → Prop} (hd : d ≤ d') (k : wp d mid s Q) : wp d' mid s Q := fun l1 hl => by
  obtain ⟨v, w1, hr, hQ⟩ := k l1 hl
  exact ⟨v, w1, Runs.mono hd hr, hQ⟩
def y_rets (ret : Option FieldType) (ins : Instr) (st : List V2) (v : Option V2) : Prop := match ins with
  | .ireturn => ∃ x : Int, st = [.inl x] ∧ (ret = some .int ∨ (ret = some .boolean ∧ (x = 0 ∨ x = 1))) ∧ v = some (.inl x)
  | .lreturn => ∃ x : Int, st = [.inr (.inl x)] ∧ ret = some .long ∧ v = some (.inr (.inl x))
  | .return_ => st = [] ∧ ret = none ∧ v = none
  | _ => False
theorem wp.fin {d mid : Nat} {m : AR} {e : AE} {pc : Nat} {lv : L2} {st : List V2} {w : W2} {v : Option V2} {Q : Option V2 → W2 → Prop} (h6 : am_lo mid ≤ d) (hm : am_all[mid]? = some m) (he : m.2.2.2.2.2.2.2 pc = some e) (h : y_rets m.2.2.2.1 e.1 st v) (k : Q v w) : wp d mid (pc, lv, st, w) Q := by
  intro l1 hl
  refine ⟨v, w, Runs.fin h6 hm he ?_, k⟩
  unfold y_rets at h
  unfold am_fin
  split at h
  · rename_i e1
    obtain ⟨x, rfl, h1, rfl⟩ := h
    rw [e1]
    refine ⟨Int32.ofInt x, rfl, ?_, rfl⟩
    rcases h1 with h1 | ⟨h1, h2⟩
    · exact Or.inl h1
    · exact Or.inr ⟨h1, y_b1 h2⟩
  · rename_i e1
    obtain ⟨x, rfl, h1, rfl⟩ := h
    rw [e1]
    exact ⟨Int64.ofInt x, rfl, h1, rfl⟩
  · rename_i e1
    obtain ⟨rfl, h1, rfl⟩ := h
    rw [e1]
    exact ⟨rfl, h1, rfl⟩
  · exact h.elim
def y_fill : List V2 → L2
  | [] => []
  | .inr (.inl x) :: l => some (.inr (.inl x)) :: none :: y_fill l
  | v :: l => some v :: y_fill l
def y_args (n : Nat) (vs : List V2) : L2 := y_fill vs ++ List.replicate (n - (y_fill vs).length) none
theorem y_fill_ok : ∀ (vs : List V2), am_fill (vs.map lV) = (y_fill vs).map (Option.map lV)
  | [] => rfl
  | .inl z :: l => by
    show some (lV (.inl z)) :: am_fill (l.map lV) = _
    rw [y_fill_ok l]; rfl
  | .inr (.inl z) :: l => by
    show some (lV (.inr (.inl z))) :: none :: am_fill (l.map lV) = _
    rw [y_fill_ok l]; rfl
  | .inr (.inr z) :: l => by
    show some (lV (.inr (.inr z))) :: am_fill (l.map lV) = _
    rw [y_fill_ok l]; rfl
theorem Lr.map : ∀ (l : L2), Lr l (l.map (Option.map lV)) := by
  intro l
  refine ⟨by simp, ?_⟩
  induction l with
  | nil => intro i v h; cases h
  | cons u l ih =>
    intro i v h
    cases i with
    | zero =>
      have h : u = some v := h
      rw [h]; rfl
    | succ i => exact ih i v h
theorem Lr.args (n : Nat) (vs : List V2) : Lr (y_args n vs) (am_args n (vs.map lV)) := by
  have e : am_args n (vs.map lV) = (y_args n vs).map (Option.map lV) := by
    unfold am_args y_args
    rw [y_fill_ok, List.map_append, List.length_map, List.map_replicate]
    rfl
  rw [e]
  exact Lr.map _
def y_rcv (b own : Nat) (As : List V2) (w : W2) : Prop := match b with
  | 0 => ∃ (p : Nat) (l : List V2), As = .inr (.inr p) :: l ∧ p < w.1.1 ∧ sh p = (1, own)
  | 2 => ∃ (p : Nat) (l : List V2), As = .inr (.inr p) :: l
  | 4 => ∃ (p : Nat) (l : List V2), As = .inr (.inr p) :: l
  | _ => True
theorem wp.call {d mid d' pc : Nat} {m k : AR} {e : AE} {lv : L2} {w : W2} {Q : Option V2 → W2 → Prop} (h6 : am_lo mid ≤ d) (hm : am_all[mid]? = some m) (he : m.2.2.2.2.2.2.2 pc = some e) (hc : am_isCall e.1 = true) (hb : e.2.2.2.1 ≤ 4) (hk : am_all[e.2.2.1]? = some k) (hd : d' < d ∧ k.2.2.1 + 19 + 35 * d' ≤ 35 * d)
    (As rest : List V2) (hn : As.length = k.2.2.2.2.2.1) (hf : (y_fill As).length ≤ k.2.2.1) (hr : y_rcv e.2.2.2.1 k.2.2.2.2.1 As w) (h8 : y_sum rest ≤ 8)
    (hx : wp d' e.2.2.1 (0, y_args k.2.2.1 As, [], w) (fun v w1 => wp d mid (e.2.1, lv, v.toList ++ rest, w1) Q)) : wp d mid (pc, lv, As.reverse ++ rest, w) Q := by
  intro l1 hl
  obtain ⟨v, w1, h1, h2⟩ := hx _ (Lr.args k.2.2.1 As)
  obtain ⟨v2, w2, h3, h4⟩ := h2 l1 hl
  have e1 : (v.toList ++ rest).map lV = (v.map lV).toList ++ rest.map lV := by cases v <;> simp
  refine ⟨v2, w2, Runs.call h6 hm he hc hb hk hd (As.map lV) (rest.map lV) (by simp) (by simpa using hn) (by rw [y_fill_ok, List.length_map]; exact hf) ?_ (by rw [y_sum_ok]; exact h8) h1 (by rw [← e1]; exact h3), h4⟩
  unfold y_rcv at hr
  unfold am_rcv
  split at hr
  · rename_i e0
    obtain ⟨p, l, rfl, h5, h6⟩ := hr
    rw [e0]
    exact ⟨p, l.map lV, rfl, h5, h6⟩
  · rename_i e0
    obtain ⟨p, l, rfl⟩ := hr
    rw [e0]
    exact ⟨p, l.map lV, rfl⟩
  · rename_i e0
    obtain ⟨p, l, rfl⟩ := hr
    rw [e0]
    exact ⟨p, l.map lV, rfl⟩
  · split <;> first | trivial | (rename_i a b _ h; exact absurd rfl (by assumption)) | simp_all
