def am_K (D : va_G) (aC : Nat → ClassId) (sp : Nat → Nat) (s : State) : Prop := va_K D vwCl (am_tys aC) s ∧ (∀ q, q ∈ lkM → (q.2.2.2.1 = 3 ∨ q.2.2.2.1 = 4) → va_Nw (am_lw q) s) ∧ (∀ (j : Nat) (q : Nat × Nat × String × Nat), lkS[j]? = some q → vk_R (am_RO q.1) q.2.1 q.2.2.1 (sp (9990 + j)) s) ∧ va_AO RX4 s ∧ va_AO RX3 s ∧ va_Nw (.arrayOver (.array .int)) s
/-- what stands fixed while a method runs -/
def am_Cx (p : Program) (R : Room) (s : State) (m : MethodId) (args : Array Value) (meth : Method) (c : Code) (D : va_G) (aC : Nat → ClassId) (B0 : Nat) (sp : Nat → Nat) (xs : Nat → Int32) (L : Nat) (r : AR) (d : Nat) : Prop :=
  p.tables.exec = Jvm.exec ∧ c.code = r.2.1 ∧ c.maxLocals = r.2.2.1 ∧ meth.sig.returnType = r.2.2.2.1 ∧ meth.locks = false ∧ s.vm.findClass (am_RO r.2.2.2.2.1) = some m.cls ∧ (∀ w ∈ am_TT, w.before args s = true) ∧ d ≤ R.frames ∧ 35 * d ≤ R.locals ∧ (r.1.name = "<init>" → meth.name = "<init>") ∧ am_K D aC sp s ∧ va_X (sp 9999) L xs s s.heap ∧ sp 9999 < B0 ∧ B0 ≤ s.heap.size ∧ sp 9999 < s.heap.size
section AMT
variable {p : Program} {l : Launch} {e : Env} {R : Room} {s : State} {m : MethodId} {args : Array Value} {below : List Frame} {meth : Method} {c : Code} {H : Heap} {locs : List Loc} {cells slots : Nat} {Q : State → Prop}
variable {D : va_G} {B0 : Nat} {sp : Nat → Nat} {aC : Nat → ClassId} {xs : Nat → Int32} {L : Nat} {r : AR} {d : Nat}
def am_Kk (p : Program) (l : Launch) (e : Env) (R : Room) (s : State) (m : MethodId) (args : Array Value) (below : List Frame) (meth : Method) (c : Code) (cells slots : Nat) (Q : State → Prop) (D : va_G) (B0 : Nat) (sp : Nat → Nat) (aC : Nat → ClassId) (xs : Nat → Int32) (L n : Nat) (w : AWd) (t : ASt) : Prop :=
  ∀ (H' : Heap) (locs' : List Loc) (ls' : Array Slot) (c' s' : Nat), am_WH D B0 sp aC xs L t.2.2.2 H' → va_S (fun q => B0 ≤ q) s.heap H' locs' → am_LH (am_ad B0 sp) ls' n t.2.1 → c' + w.1.1 = cells + t.2.2.2.1.1 → s' + w.1.2.1 = slots + t.2.2.2.1.2.1 →
    W p l e R s m args below meth c H' locs' c' s' Q (F0 m t.1 ls' (t.2.2.1.map (am_cv (am_ad B0 sp))))
theorem am_chk_inv {bytes : ByteArray} {o pc : Nat} {ins : Instr} {nx a b z : Nat} {v : Value} (h : am_chk bytes o pc (ins, nx, a, b, z, v) = true) : decode bytes pc = .ok (ins, am_il ins (nx - pc)) ∧ nx = pc + am_il ins (nx - pc) ∧ am_chka o pc (ins, nx, a, b, z, v) = true := by
  simp only [am_chk, Bool.and_eq_true, decide_eq_true_eq] at h
  exact ⟨h.1.1, Nat.eq_of_beq_eq_true h.1.2, h.2⟩
theorem am_ii_inv {nx : Nat} {lv : AL} {st : List Value} {w : AWd} {f : Int32 → Int32 → Int32} {q : Option Prop} {t : ASt} (h : am_ii nx lv st w f = some (q, t)) : ∃ x y r, st = .int y :: .int x :: r ∧ t = (nx, lv, .int (f x y) :: r, w) := by
  unfold am_ii at h
  split at h
  · simp only [Option.some.injEq, Prod.mk.injEq] at h
    exact ⟨_, _, _, rfl, h.2.symm⟩
  · cases h
theorem am_ll_inv {nx : Nat} {lv : AL} {st : List Value} {w : AWd} {f : Int64 → Int64 → Int64} {q : Option Prop} {t : ASt} (h : am_ll nx lv st w f = some (q, t)) : ∃ x y r, st = .long y :: .long x :: r ∧ t = (nx, lv, .long (f x y) :: r, w) := by
  unfold am_ll at h
  split at h
  · simp only [Option.some.injEq, Prod.mk.injEq] at h
    exact ⟨_, _, _, rfl, h.2.symm⟩
  · cases h
theorem am_dv_inv {nx : Nat} {lv : AL} {st : List Value} {w : AWd} {f : Int32 → Int32 → Int32} {q : Option Prop} {t : ASt} (h : am_dv nx lv st w f = some (q, t)) : ∃ x y r, st = .int y :: .int x :: r ∧ q = some (¬ y = 0) ∧ t = (nx, lv, .int (f x y) :: r, w) := by
  unfold am_dv at h
  split at h
  · simp only [Option.some.injEq, Prod.mk.injEq] at h
    exact ⟨_, _, _, rfl, h.1.symm, h.2.symm⟩
  · cases h
theorem am_dvl_inv {nx : Nat} {lv : AL} {st : List Value} {w : AWd} {f : Int64 → Int64 → Int64} {q : Option Prop} {t : ASt} (h : am_dvl nx lv st w f = some (q, t)) : ∃ x y r, st = .long y :: .long x :: r ∧ q = some (¬ y = 0) ∧ t = (nx, lv, .long (f x y) :: r, w) := by
  unfold am_dvl at h
  split at h
  · simp only [Option.some.injEq, Prod.mk.injEq] at h
    exact ⟨_, _, _, rfl, h.1.symm, h.2.symm⟩
  · cases h
theorem am_i1_inv {nx : Nat} {lv : AL} {st : List Value} {w : AWd} {f : Int32 → Value} {q : Option Prop} {t : ASt} (h : am_i1 nx lv st w f = some (q, t)) : ∃ x r, st = .int x :: r ∧ t = (nx, lv, f x :: r, w) := by
  unfold am_i1 at h
  split at h
  · simp only [Option.some.injEq, Prod.mk.injEq] at h
    exact ⟨_, _, rfl, h.2.symm⟩
  · cases h
theorem am_l1_inv {nx : Nat} {lv : AL} {st : List Value} {w : AWd} {f : Int64 → Value} {q : Option Prop} {t : ASt} (h : am_l1 nx lv st w f = some (q, t)) : ∃ x r, st = .long x :: r ∧ t = (nx, lv, f x :: r, w) := by
  unfold am_l1 at h
  split at h
  · simp only [Option.some.injEq, Prod.mk.injEq] at h
    exact ⟨_, _, rfl, h.2.symm⟩
  · cases h
theorem am_ld_inv {nx i : Nat} {lv : AL} {st : List Value} {w : AWd} {q : Option Prop} {t : ASt} (h : am_ld nx lv st w i = some (q, t)) : ∃ x, am_g lv i = some (.int x) ∧ t = (nx, lv, .int x :: st, w) := by
  unfold am_ld at h
  split at h
  · rename_i x hx
    simp only [Option.some.injEq, Prod.mk.injEq] at h
    exact ⟨x, hx, h.2.symm⟩
  · cases h
theorem am_ldl_inv {nx i : Nat} {lv : AL} {st : List Value} {w : AWd} {q : Option Prop} {t : ASt} (h : am_ldl nx lv st w i = some (q, t)) : ∃ x, am_g lv i = some (.long x) ∧ t = (nx, lv, .long x :: st, w) := by
  unfold am_ldl at h
  split at h
  · rename_i x hx
    simp only [Option.some.injEq, Prod.mk.injEq] at h
    exact ⟨x, hx, h.2.symm⟩
  · cases h
theorem am_lda_inv {nx i : Nat} {lv : AL} {st : List Value} {w : AWd} {q : Option Prop} {t : ASt} (h : am_lda nx lv st w i = some (q, t)) : ∃ x, am_g lv i = some (.ref x) ∧ t = (nx, lv, .ref x :: st, w) := by
  unfold am_lda at h
  split at h
  · rename_i x hx
    simp only [Option.some.injEq, Prod.mk.injEq] at h
    exact ⟨x, hx, h.2.symm⟩
  · cases h
theorem am_sti_inv {nx i : Nat} {lv : AL} {st : List Value} {w : AWd} {q : Option Prop} {t : ASt} (h : am_sti nx lv st w i = some (q, t)) : ∃ x r, st = .int x :: r ∧ i < lv.length ∧ t = (nx, am_s1 lv i (.int x), r, w) := by
  unfold am_sti at h
  split at h
  · cases hb : Nat.blt i lv.length with
    | true =>
      rw [hb] at h
      simp only [cond_true, Option.some.injEq, Prod.mk.injEq] at h
      exact ⟨_, _, rfl, Nat.le_of_ble_eq_true hb, h.2.symm⟩
    | false => rw [hb] at h; cases h
  · cases h
theorem am_stl_inv {nx i : Nat} {lv : AL} {st : List Value} {w : AWd} {q : Option Prop} {t : ASt} (h : am_stl nx lv st w i = some (q, t)) : ∃ x r, st = .long x :: r ∧ i + 1 < lv.length ∧ t = (nx, am_s2 lv i (.long x), r, w) := by
  unfold am_stl at h
  split at h
  · cases hb : Nat.blt (i + 1) lv.length with
    | true =>
      rw [hb] at h
      simp only [cond_true, Option.some.injEq, Prod.mk.injEq] at h
      exact ⟨_, _, rfl, Nat.le_of_ble_eq_true hb, h.2.symm⟩
    | false => rw [hb] at h; cases h
  · cases h
theorem am_sta_inv {nx i : Nat} {lv : AL} {st : List Value} {w : AWd} {q : Option Prop} {t : ASt} (h : am_sta nx lv st w i = some (q, t)) : ∃ x r, st = .ref x :: r ∧ i < lv.length ∧ t = (nx, am_s1 lv i (.ref x), r, w) := by
  unfold am_sta at h
  split at h
  · cases hb : Nat.blt i lv.length with
    | true =>
      rw [hb] at h
      simp only [cond_true, Option.some.injEq, Prod.mk.injEq] at h
      exact ⟨_, _, rfl, Nat.le_of_ble_eq_true hb, h.2.symm⟩
    | false => rw [hb] at h; cases h
  · cases h
theorem am_to_inv {z : Int} {q0 : Prop} {lv : AL} {r : List Value} {w : AWd} {q : Option Prop} {t : ASt} (h : am_to z q0 lv r w = some (q, t)) : ∃ k : Nat, z = k ∧ q = some q0 ∧ t = (k, lv, r, w) := by
  unfold am_to at h
  split at h
  · simp only [Option.some.injEq, Prod.mk.injEq] at h
    exact ⟨_, rfl, h.1.symm, h.2.symm⟩
  · cases h
end AMT
