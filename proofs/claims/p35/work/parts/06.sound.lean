/-! a step of the abstract machine is a step of the machine -/
def am_ad (B0 : Nat) (sp : Nat → Nat) (p : Nat) : Nat := if p < am_NP then B0 + p else sp p
def am_cv (ad : Nat → Nat) (v : Value) : Value := match v with
  | .ref a => .ref (ad a)
  | .int x => .int x
  | .long x => .long x
  | .float x => .float x
  | .double x => .double x
  | .null => .null
  | .retAddr x => .retAddr x
def am_E (ad : Nat → Nat) (aC : Nat → ClassId) (w : AWd) (p : Nat) : va_E := match (sh p).1 with
  | 1 => .inr ((sh p).2, (List.range (am_N (sh p).2)).map (fun k => cond (am_isI (sh p).2 k) (.int (w.2.1 p k)) (va_rf ((w.2.2.2 p k).map ad))))
  | 2 => .inl (aC 2, (sh p).2, .inl (w.2.1 p))
  | 3 => .inl (aC 3, (sh p).2, .inl (w.2.1 p))
  | 4 => .inl (aC 4, (sh p).2, .inr (.inl (w.2.2.1 p)))
  | k => .inl (aC k, (sh p).2, .inr (.inr (.inr (.inr (fun i => (w.2.2.2 p i).map ad)))))
def am_ws (ad : Nat → Nat) (aC : Nat → ClassId) (w : AWd) : va_W := (List.range w.1.1).map (fun p => (ad p, am_E ad aC w p))
def am_tys (aC : Nat → ClassId) : List (ClassId × FieldType) := [(aC 2, .int), (aC 3, .boolean), (aC 4, .long), (aC 5, .array .int), (aC 6, .object RX4), (aC 7, .object RX3)]
theorem am_ws_get {ad : Nat → Nat} {aC : Nat → ClassId} {w : AWd} {p : Nat} (h : p < w.1.1) : (am_ws ad aC w)[p]? = some (ad p, am_E ad aC w p) := by
  simp [am_ws, h]
theorem am_ws_inv {ad : Nat → Nat} {aC : Nat → ClassId} {w : AWd} {i : Nat} {q : Nat × va_E} (h : (am_ws ad aC w)[i]? = some q) : i < w.1.1 ∧ q = (ad i, am_E ad aC w i) := by
  by_cases hi : i < w.1.1
  · rw [am_ws_get hi] at h
    exact ⟨hi, (Option.some.inj h).symm⟩
  · rw [List.getElem?_eq_none (by simp [am_ws]; omega)] at h
    cases h
theorem am_D {B0 : Nat} {sp : Nat → Nat} {aC : Nat → ClassId} {w : AWd} (h : w.1.1 ≤ am_NP) : va_D (fun q => B0 ≤ q) (am_ws (am_ad B0 sp) aC w) := by
  refine ⟨fun i j p q hi hj e => ?_, fun k q hk => ?_⟩
  · obtain ⟨h1, rfl⟩ := am_ws_inv hi
    obtain ⟨h2, rfl⟩ := am_ws_inv hj
    simp only [am_ad] at e
    rw [if_pos (by omega), if_pos (by omega)] at e
    omega
  · obtain ⟨h1, rfl⟩ := am_ws_inv hk
    simp only [am_ad]
    rw [if_pos (by omega)]
    omega
theorem am_set {ad : Nat → Nat} {aC : Nat → ClassId} {w w' : AWd} {p : Nat} (hn : w'.1.1 = w.1.1) (hq : ∀ q, q ≠ p → am_E ad aC w' q = am_E ad aC w q) : (am_ws ad aC w).set p (ad p, am_E ad aC w' p) = am_ws ad aC w' := by
  apply List.ext_getElem?
  intro i
  by_cases hi : i < w.1.1
  · rw [List.getElem?_set, am_ws_get hi, am_ws_get (by omega)]
    by_cases h : p = i
    · subst h
      simp [am_ws, hi]
    · rw [if_neg h, hq i (fun e => h e.symm)]
  · rw [List.getElem?_eq_none (by simp [am_ws]; omega), List.getElem?_eq_none (by simp [am_ws]; omega)]
/-- the world in the heap -/
def am_WH (D : va_G) (B0 : Nat) (sp : Nat → Nat) (aC : Nat → ClassId) (xs : Nat → Int32) (L : Nat) (w : AWd) (H : Heap) : Prop :=
  va_P D vwCl (am_ws (am_ad B0 sp) aC w) H ∧ w.1.1 ≤ am_NP ∧ (w.1.1 < am_NP → H.size = B0 + w.1.1) ∧ B0 ≤ H.size ∧ w.1.2.2 = L ∧ w.2.1 9999 = xs
theorem am_adp {B0 : Nat} {sp : Nat → Nat} {p : Nat} (h : p < am_NP) : am_ad B0 sp p = B0 + p := if_pos h
theorem am_WH.put {D : va_G} {B0 : Nat} {sp : Nat → Nat} {aC : Nat → ClassId} {xs : Nat → Int32} {L : Nat} {w w' : AWd} {H H1 : Heap} {p : Nat} (h : am_WH D B0 sp aC xs L w H) (hp : p < w.1.1) (hn : w'.1 = w.1)
    (hq : ∀ q, q ≠ p → am_E (am_ad B0 sp) aC w' q = am_E (am_ad B0 sp) aC w q) (h9 : w'.2.1 9999 = w.2.1 9999) (hat : va_at D vwCl (am_ad B0 sp p, am_E (am_ad B0 sp) aC w' p) H1) (z : w.1.1 < am_NP → H1.size = H.size) (z0 : H.size ≤ H1.size) (oq : ∀ q : Nat, q ≠ am_ad B0 sp p → H1[q]? = H[q]?) : am_WH D B0 sp aC xs L w' H1 := by
  obtain ⟨h1, h2, h3, h4, h5, h6⟩ := h
  refine ⟨?_, by rw [hn]; exact h2, fun q => ?_, Nat.le_trans h4 z0, by rw [hn]; exact h5, by rw [h9]; exact h6⟩
  · rw [← am_set (by rw [hn]) hq]
    exact va_P.set h1 (am_D h2) (am_ws_get hp) hat oq
  · rw [hn] at q ⊢
    rw [z q]; exact h3 q
/-- locals -/
def am_LH (ad : Nat → Nat) (ls : Array Slot) (n : Nat) (lv : AL) : Prop := ls.size = n ∧ lv_wf ls ∧ lv.length = n ∧ ∀ (i : Nat) (v : Value), am_g lv i = some v → ls[i]? = some (.val (am_cv ad v))
def am_al (ad : Nat → Nat) : Nat → AL → List (Nat × Value)
  | _, [] => []
  | i, none :: l => am_al ad (i + 1) l
  | i, some v :: l => (i, am_cv ad v) :: am_al ad (i + 1) l
theorem am_al_mem {ad : Nat → Nat} : ∀ (l : AL) (i : Nat) (q : Nat × Value), q ∈ am_al ad i l ↔ ∃ j v, q = (i + j, am_cv ad v) ∧ am_g l j = some v := by
  intro l
  induction l with
  | nil => intro i q; simp [am_al, am_g]
  | cons u l ih =>
    intro i q
    cases u with
    | none =>
      rw [am_al, ih]
      constructor
      · rintro ⟨j, v, h1, h2⟩
        exact ⟨j + 1, v, by rw [h1]; congr 1; omega, h2⟩
      · rintro ⟨j, v, h1, h2⟩
        cases j with
        | zero => cases h2
        | succ j => exact ⟨j, v, by rw [h1]; congr 1; omega, h2⟩
    | some u =>
      rw [am_al, List.mem_cons, ih]
      constructor
      · rintro (rfl | ⟨j, v, h1, h2⟩)
        · exact ⟨0, u, rfl, rfl⟩
        · exact ⟨j + 1, v, by rw [h1]; congr 1; omega, h2⟩
      · rintro ⟨j, v, h1, h2⟩
        cases j with
        | zero =>
          cases h2
          exact Or.inl h1
        | succ j => exact Or.inr ⟨j, v, by rw [h1]; congr 1; omega, h2⟩
theorem am_LH.has {ad : Nat → Nat} {ls : Array Slot} {n : Nat} {lv : AL} (h : am_LH ad ls n lv) : lv_has ls n (am_al ad 0 lv) := by
  refine ⟨h.1, h.2.1, fun q hq => ?_⟩
  obtain ⟨j, v, rfl, hv⟩ := (am_al_mem lv 0 q).mp hq
  have := h.2.2.2 j v hv
  simpa using this
theorem am_g_s : ∀ (l : AL) (i j : Nat) (x : Option Value), am_g (am_s l i x) j = if j = i ∧ i < l.length then x else am_g l j := by
  intro l
  induction l with
  | nil => intro i j x; simp [am_s]
  | cons u l ih =>
    intro i j x
    cases i with
    | zero => cases j <;> simp [am_s, am_g]
    | succ i =>
      cases j with
      | zero => simp [am_s, am_g]
      | succ j => simp [am_s, am_g, ih]
theorem am_s_len : ∀ (l : AL) (i : Nat) (x : Option Value), (am_s l i x).length = l.length := by
  intro l
  induction l with
  | nil => intro i x; rfl
  | cons u l ih =>
    intro i x
    cases i with
    | zero => rfl
    | succ i => simp [am_s, ih]
theorem am_k_len (l : AL) (i : Nat) : (am_k l i).length = l.length := by
  unfold am_k
  split
  · rfl
  · split <;> simp [am_s_len]
theorem am_g_k {l : AL} {i j : Nat} {v : Value} (h : am_g (am_k l i) j = some v) : am_g l j = some v ∧ ¬ (j + 1 = i ∧ v.category = 2) := by
  unfold am_k at h
  split at h
  · exact ⟨h, by omega⟩
  · rename_i i'
    split at h
    · rename_i x hx
      rw [am_g_s] at h
      split at h
      · cases h
      · rename_i hn
        refine ⟨h, fun ⟨e, _⟩ => hn ⟨by omega, ?_⟩⟩
        rw [← Nat.not_le]
        intro hle
        have : ∀ (l : AL) (k : Nat), l.length ≤ k → am_g l k = none := by
          intro l
          induction l with
          | nil => intro k _; rfl
          | cons u l ih =>
            intro k hk
            cases k with
            | zero => simp at hk
            | succ k => exact ih k (by simpa using hk)
        rw [this l i' hle] at hx
        cases hx
    · rename_i x hx
      rw [am_g_s] at h
      split at h
      · cases h
      · rename_i hn
        refine ⟨h, fun ⟨e, _⟩ => hn ⟨by omega, ?_⟩⟩
        rw [← Nat.not_le]
        intro hle
        have : ∀ (l : AL) (k : Nat), l.length ≤ k → am_g l k = none := by
          intro l
          induction l with
          | nil => intro k _; rfl
          | cons u l ih =>
            intro k hk
            cases k with
            | zero => simp at hk
            | succ k => exact ih k (by simpa using hk)
        rw [this l i' hle] at hx
        cases hx
    · rename_i h1 h2
      refine ⟨h, fun ⟨e, hc⟩ => ?_⟩
      have e' : j = i' := by omega
      subst e'
      cases v with
      | long x => exact h1 x h
      | double x => exact h2 x h
      | _ => simp [Value.category] at hc
theorem am_cvcat (ad : Nat → Nat) (v : Value) : (am_cv ad v).category = v.category := by cases v <;> rfl
theorem am_cvsum (ad : Nat → Nat) (l : List Value) : ((l.map (am_cv ad)).map fun v => v.category).sum = (l.map fun v => v.category).sum := by
  rw [List.map_map]
  congr 1
  apply List.map_congr_left
  intro v _
  exact am_cvcat ad v
theorem am_LH.st1 {ad : Nat → Nat} {ls' : Array Slot} {n : Nat} {lv : AL} {ls : Array Slot} (h0 : am_LH ad ls n lv) {i : Nat} {v : Value} (hi : i < n)
    (h : lv_has ls' n ((i, am_cv ad v) :: (am_al ad 0 lv).filter (fun q => !(q.1 == i) && !(q.1 + 1 == i && q.2.category == 2)))) : am_LH ad ls' n (am_s1 lv i v) := by
  refine ⟨h.1, h.2.1, by rw [am_s1, am_s_len, am_k_len]; exact h0.2.2.1, fun j u hj => ?_⟩
  rw [am_s1, am_g_s, am_k_len, h0.2.2.1] at hj
  split at hj
  · rename_i e
    cases hj
    rw [e.1]
    exact h.2.2 _ List.mem_cons_self
  · rename_i e
    obtain ⟨h1, h2⟩ := am_g_k hj
    have : (j, am_cv ad u) ∈ (am_al ad 0 lv).filter (fun q => !(q.1 == i) && !(q.1 + 1 == i && q.2.category == 2)) := by
      rw [List.mem_filter]
      refine ⟨(am_al_mem lv 0 _).mpr ⟨j, u, by simp, h1⟩, ?_⟩
      have e1 : ¬ j = i := fun q => e ⟨q, hi⟩
      simp only [am_cvcat, Bool.and_eq_true, Bool.not_eq_true', beq_eq_false_iff_ne, ne_eq, Bool.and_eq_false_iff, e1, not_false_eq_true, true_and]
      by_cases q : j + 1 = i
      · right; exact fun c => h2 ⟨q, c⟩
      · left; exact q
    exact h.2.2 _ (List.mem_cons_of_mem _ this)
theorem am_LH.st2 {ad : Nat → Nat} {ls' : Array Slot} {n : Nat} {lv : AL} {ls : Array Slot} (h0 : am_LH ad ls n lv) {i : Nat} {v : Value} (hi : i + 1 < n)
    (h : lv_has ls' n ((i, am_cv ad v) :: (am_al ad 0 lv).filter (fun q => !(q.1 == i) && (!(q.1 == i + 1) && !(q.1 + 1 == i && q.2.category == 2))))) : am_LH ad ls' n (am_s2 lv i v) := by
  refine ⟨h.1, h.2.1, by rw [am_s2, am_s_len, am_s_len, am_k_len]; exact h0.2.2.1, fun j u hj => ?_⟩
  rw [am_s2, am_g_s, am_s_len, am_k_len, h0.2.2.1] at hj
  split at hj
  · cases hj
  rename_i e2
  rw [am_g_s, am_k_len, h0.2.2.1] at hj
  split at hj
  · rename_i e
    cases hj
    rw [e.1]
    exact h.2.2 _ List.mem_cons_self
  · rename_i e
    obtain ⟨h1, h2⟩ := am_g_k hj
    have : (j, am_cv ad u) ∈ (am_al ad 0 lv).filter (fun q => !(q.1 == i) && (!(q.1 == i + 1) && !(q.1 + 1 == i && q.2.category == 2))) := by
      rw [List.mem_filter]
      refine ⟨(am_al_mem lv 0 _).mpr ⟨j, u, by simp, h1⟩, ?_⟩
      have e1 : ¬ j = i := fun q => e ⟨q, by omega⟩
      have e3 : ¬ j = i + 1 := fun q => e2 ⟨q, hi⟩
      simp only [am_cvcat, Bool.and_eq_true, Bool.not_eq_true', beq_eq_false_iff_ne, ne_eq, Bool.and_eq_false_iff, e1, e3, not_false_eq_true, true_and]
      by_cases q : j + 1 = i
      · right; exact fun c => h2 ⟨q, c⟩
      · left; exact q
    exact h.2.2 _ (List.mem_cons_of_mem _ this)
