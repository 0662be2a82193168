/-! places: what is where, once all is made -/
abbrev Wd (S L : Nat) (F G : Nat → Nat → Int) (h : Nat → Nat → Option Nat) : W2 := ((297, S, L), F, G, h)
def tks : List Nat := [1, 19, 39, 57, 75, 93, 111, 129, 147, 167, 185, 203, 221, 239, 257]
def isT (p : Nat) : Bool := tks.any (Nat.beq p)
def rfT (p k : Nat) : Option Nat := match k with
  | 0 => some (p + 1)
  | 1 => some (p + 2)
  | 2 => some (p + 3)
  | 3 => some (p + 4)
  | 4 => some (p + 5)
  | 5 => some (p + 6)
  | 10 => some (p + 7)
  | 11 => some (p + 8)
  | 12 => some (p + 9)
  | _ => none
def rfx (p k : Nat) : Option Nat := match p, k with
  | 0, 0 => some 1
  | 0, 1 => some 19
  | 0, 2 => some 37
  | 0, 3 => some 147
  | 0, 4 => some 165
  | 0, 6 => some 275
  | 0, 7 => some 281
  | 0, 8 => some 284
  | 0, 9 => some 288
  | 37, 0 => some 38
  | 165, 0 => some 166
  | 275, 0 => some 276
  | 275, 1 => some 277
  | 275, 2 => some 278
  | 275, 5 => some 279
  | 275, 6 => some 280
  | 281, 0 => some 282
  | 281, 1 => some 283
  | 284, 0 => some 285
  | 284, 5 => some 286
  | 284, 6 => some 287
  | 288, 0 => some 289
  | 288, 1 => some 291
  | 288, 2 => some 293
  | 288, 3 => some 295
  | 289, 3 => some 290
  | 291, 3 => some 292
  | 293, 3 => some 294
  | 295, 3 => some 296
  | _, _ => none
def rf (p k : Nat) : Option Nat := cond (isT p) (rfT p k) (cond (Nat.ble 9 p && isT (p - 9)) (cond (Nat.blt k 8) (some (p + 1 + k)) none) (rfx p k))
def RfH (h : Nat → Nat → Option Nat) : Prop := ∀ p k q, rf p k = some q → h p k = some q
def YTP (p : Nat) : Prop := isT p = true
def YSP (p : Nat) : Prop := ∃ j, j < 4 ∧ p = 289 + 2 * j
def YLP (q : Nat) : Prop := q < 297 ∧ sh q = (2, 6)
theorem YTP.mem {p : Nat} (tp : YTP p) : p ∈ tks := by
  unfold YTP isT at tp
  rw [List.any_eq_true] at tp
  obtain ⟨x, hx, he⟩ := tp
  rw [Nat.eq_of_beq_eq_true he]
  exact hx
theorem YTP.all {P : Nat → Prop} (h : ∀ p ∈ tks, P p) {p : Nat} (tp : YTP p) : P p := h p tp.mem
theorem YTP.o {p : Nat} (tp : YTP p) : p < 297 ∧ sh p = (1, 4) := YTP.all (P := fun p => p < 297 ∧ sh p = (1, 4)) (by decide) tp
theorem YTP.a0 : ∀ p ∈ tks, ∀ k, k < 18 → p + k < 297 ∧ sh (p + k) = am_shT k := by decide +kernel
theorem YTP.a {p : Nat} (tp : YTP p) (k : Nat) {x : Nat × Nat} (hk : Nat.blt k 18 = true) (e : am_shT k = x) : p + k < 297 ∧ sh (p + k) = x := by
  have := YTP.a0 p tp.mem k (Nat.le_of_ble_eq_true hk)
  rw [← e]
  exact this
theorem YTP.erf {p : Nat} (tp : YTP p) (k : Nat) : rf p k = rfT p k := by
  unfold YTP at tp
  unfold rf
  rw [tp]
  rfl
theorem YTP.g {h : Nat → Nat → Option Nat} (hh : RfH h) {p : Nat} (tp : YTP p) (k : Nat) {q : Nat} (e : rfT p k = some q) : p < 297 ∧ sh p = (1, 4) ∧ h p k = some q :=
  ⟨tp.o.1, tp.o.2, hh _ _ _ (by rw [tp.erf]; exact e)⟩
theorem YSP.o {p : Nat} (sp : YSP p) : p < 297 ∧ sh p = (1, 3) := by
  obtain ⟨j, hj, rfl⟩ := sp
  exact (by decide : ∀ j, j < 4 → 289 + 2 * j < 297 ∧ sh (289 + 2 * j) = (1, 3)) j hj
theorem YSP.a {p : Nat} (sp : YSP p) : p + 1 < 297 ∧ sh (p + 1) = (4, 24) := by
  obtain ⟨j, hj, rfl⟩ := sp
  exact (by decide : ∀ j, j < 4 → 289 + 2 * j + 1 < 297 ∧ sh (289 + 2 * j + 1) = (4, 24)) j hj
theorem YSP.g {h : Nat → Nat → Option Nat} (hh : RfH h) {p : Nat} (sp : YSP p) : p < 297 ∧ sh p = (1, 3) ∧ h p 3 = some (p + 1) := by
  refine ⟨sp.o.1, sp.o.2, hh _ _ _ ?_⟩
  obtain ⟨j, hj, rfl⟩ := sp
  exact (by decide : ∀ j, j < 4 → rf (289 + 2 * j) 3 = some (289 + 2 * j + 1)) j hj
theorem YSP.of {z : Int} (g : 0 ≤ z ∧ z < 4) : YSP (289 + 2 * z.toNat) := ⟨z.toNat, by omega, rfl⟩
theorem YLP.of1 {z : Int} (g : 0 ≤ z ∧ z < 8) : YLP (11 + z.toNat) := (by decide : ∀ j, j < 8 → 11 + j < 297 ∧ sh (11 + j) = (2, 6)) z.toNat (by omega)
theorem YLP.ofT {p : Nat} (tp : YTP p) {z : Int} (g : 0 ≤ z ∧ z < 8) : YLP (p + 10 + z.toNat) := by
  have h8 : z.toNat < 8 := by omega
  generalize z.toNat = k at h8
  have hb : Nat.blt (10 + k) 18 = true := Nat.ble_eq_true_of_le (by omega)
  have := YTP.a tp (10 + k) (x := (2, 6)) hb ((by decide : ∀ k, k < 8 → am_shT (10 + k) = (2, 6)) k h8)
  rw [← Nat.add_assoc] at this
  exact this
theorem hh_rows {h : Nat → Nat → Option Nat} (hh : RfH h) {z : Int} (g : 0 ≤ z ∧ z < 4) : h 288 z.toNat = some (289 + 2 * z.toNat) :=
  hh _ _ _ ((by decide : ∀ j, j < 4 → rf 288 j = some (289 + 2 * j)) z.toNat (by omega))
theorem hh_let1 {h : Nat → Nat → Option Nat} (hh : RfH h) {z : Int} (g : 0 ≤ z ∧ z < 8) : h 10 z.toNat = some (11 + z.toNat) :=
  hh _ _ _ ((by decide : ∀ j, j < 8 → rf 10 j = some (11 + j)) z.toNat (by omega))
theorem hh_letT {h : Nat → Nat → Option Nat} (hh : RfH h) {p : Nat} (tp : YTP p) {z : Int} (g : 0 ≤ z ∧ z < 8) : (p + 9) < 297 ∧ ((sh (p + 9)).1 = 5 ∨ (sh (p + 9)).1 = 6 ∨ (sh (p + 9)).1 = 7) ∧ (0 ≤ z ∧ z < (sh (p + 9)).2) ∧ h (p + 9) z.toNat = some (p + 10 + z.toNat) := by
  obtain ⟨h1, h2⟩ := YTP.a tp 9 (x := (5, 8)) rfl rfl
  refine ⟨h1, Or.inl (by rw [h2]), ?_, hh _ _ _ ?_⟩
  · rw [h2]; exact g
  · have h8 : z.toNat < 8 := by omega
    generalize z.toNat = k at h8
    exact (by decide +kernel : ∀ p ∈ tks, ∀ k, k < 8 → rf (p + 9) k = some (p + 10 + k)) p tp.mem k h8
theorem RfH.up38 {h : Nat → Nat → Option Nat} (hh : RfH h) {i : Nat} {v : Option Nat} : RfH (am_up h 38 i v) := by
  intro p k q e
  unfold am_up
  by_cases hp : p = 38
  · subst hp; cases e
  · rw [if_neg hp]; exact hh p k q e
theorem RfH.up166 {h : Nat → Nat → Option Nat} (hh : RfH h) {i : Nat} {v : Option Nat} : RfH (am_up h 166 i v) := by
  intro p k q e
  unfold am_up
  by_cases hp : p = 166
  · subst hp; cases e
  · rw [if_neg hp]; exact hh p k q e
theorem ix {p k n : Nat} {z : Int} (a : p < 297 ∧ sh p = (k, n)) (g : 0 ≤ z ∧ z < (n : Int)) : p < 297 ∧ (sh p).1 = k ∧ 0 ≤ z ∧ z < (sh p).2 := by
  rw [a.2]
  exact ⟨a.1, rfl, g.1, g.2⟩
theorem ixz {p k n : Nat} {z x : Int} (a : p < 297 ∧ sh p = (k, n)) (g : 0 ≤ z ∧ z < (n : Int)) (zz : x = 0 ∨ x = 1) : p < 297 ∧ (sh p).1 = k ∧ (0 ≤ z ∧ z < (sh p).2) ∧ (x = 0 ∨ x = 1) := by
  rw [a.2]
  exact ⟨a.1, rfl, g, zz⟩
theorem cpq {S L : Nat} {F G : Nat → Nat → Int} {h : Nat → Nat → Option Nat} {T n1 n2 p q : Nat} {sp dp n : Int} (a : p < 297 ∧ sh p = (T, n1)) (b : q < 297 ∧ sh q = (T, n2)) (g : 0 ≤ sp ∧ 0 ≤ dp ∧ 0 ≤ n ∧ sp + n ≤ (n1 : Int) ∧ dp + n ≤ (n2 : Int)) : y_cpq (Wd S L F G h) T p q sp dp n := by
  unfold y_cpq
  rw [a.2, b.2]
  exact ⟨Nat.le_refl _, a.1, b.1, rfl, rfl, g⟩
theorem y_cmp_r32 {x y : Int} : R32 (y_cmp x y) := by
  unfold y_cmp
  split
  · exact ⟨by decide, by decide⟩
  · split <;> exact ⟨by decide, by decide⟩
theorem y_cmp_lt {x y : Int} : y_cmp x y < 0 ↔ x < y := by
  unfold y_cmp
  split
  · omega
  · split <;> omega
theorem y_cmp_gt {x y : Int} : 0 < y_cmp x y ↔ y < x := by
  unfold y_cmp
  split
  · omega
  · split <;> omega
theorem y_cmp_le {x y : Int} : y_cmp x y ≤ 0 ↔ x ≤ y := by
  unfold y_cmp
  split
  · omega
  · split <;> omega
theorem y_cmp_ge {x y : Int} : 0 ≤ y_cmp x y ↔ y ≤ x := by
  unfold y_cmp
  split
  · omega
  · split <;> omega
theorem y_cmp_eq {x y : Int} : y_cmp x y = 0 ↔ x = y := by
  unfold y_cmp
  split
  · omega
  · split <;> omega
theorem y_cmp_ne {x y : Int} : ¬ y_cmp x y = 0 ↔ ¬ x = y := by
  rw [y_cmp_eq]
theorem r64 {x : Int} (h : R32 x) : R64 x := ⟨by have := h.1; omega, by have := h.2; omega⟩
theorem lsw2 {x : Int} (h0 : ¬ x = 0) (h1 : ¬ x = 1) : Op.lookupswitch.offset [(0, 25), (1, 35)] 45 x = 45 := by
  have e0 : ¬ 0 = x := fun e => h0 e.symm
  have e1 : ¬ 1 = x := fun e => h1 e.symm
  simp [Op.lookupswitch.offset, h0, h1, e0, e1]
theorem wp.cl {d mid pc : Nat} {m k : AR} {e : AE} {lv : L2} {st : List V2} {w : W2} {Q : Option V2 → W2 → Prop} (hm : am_all[mid]? = some m) (he : m.2.2.2.2.2.2.2 pc = some e) (hk : am_all[e.2.2.1]? = some k) (d' : Nat) (As rest : List V2) (hst : st = As.reverse ++ rest) (h6 : am_lo mid ≤ d) (hd : d' < d ∧ k.2.2.1 + 19 + 35 * d' ≤ 35 * d) (hc : am_isCall e.1 = true) (hb : e.2.2.2.1 ≤ 4)
    (hn : As.length = k.2.2.2.2.2.1) (hf : (y_fill As).length ≤ k.2.2.1) (h8 : y_sum rest ≤ 8) (hr : y_rcv e.2.2.2.1 k.2.2.2.2.1 As w)
    (hx : wp d' e.2.2.1 (0, y_args k.2.2.1 As, [], w) (fun v w1 => wp d mid (e.2.1, lv, v.toList ++ rest, w1) Q)) : wp d mid (pc, lv, st, w) Q := by
  subst hst
  exact wp.call h6 hm he hc hb hk hd As rest hn hf hr h8 hx
/-! the methods by their numbers -/
theorem am_m0 : am_all[0]? = some (yX0_init, cX0_init, 1, none, 0, 1, false, am_c0) := rfl
theorem pt0 {d : Nat} {s s' : S2} {P : Prop} {Q : Option V2 → W2 → Prop} (h6 : 6 ≤ d) (os : List Nat) (h : ays am_c0 os True s = some (P, s')) (hP : P) (k : wp d 0 s' Q) : wp d 0 s Q := wp.pathm h6 am_m0 os True P s s' h hP k
theorem am_m1 : am_all[1]? = some (yX0_renew, cX0_renew, 2, none, 0, 2, false, am_c1) := rfl
theorem pt1 {d : Nat} {s s' : S2} {P : Prop} {Q : Option V2 → W2 → Prop} (h6 : 6 ≤ d) (os : List Nat) (h : ays am_c1 os True s = some (P, s')) (hP : P) (k : wp d 1 s' Q) : wp d 1 s Q := wp.pathm h6 am_m1 os True P s s' h hP k
theorem am_m2 : am_all[2]? = some (yX0_cutByMarks, cX0_cutByMarks, 5, none, 0, 2, false, am_c2) := rfl
theorem pt2 {d : Nat} {s s' : S2} {P : Prop} {Q : Option V2 → W2 → Prop} (h6 : 6 ≤ d) (os : List Nat) (h : ays am_c2 os True s = some (P, s')) (hP : P) (k : wp d 2 s' Q) : wp d 2 s Q := wp.pathm h6 am_m2 os True P s s' h hP k
theorem am_m3 : am_all[3]? = some (yX0_lend, cX0_lend, 4, none, 0, 2, false, am_c3) := rfl
theorem pt3 {d : Nat} {s s' : S2} {P : Prop} {Q : Option V2 → W2 → Prop} (h6 : 6 ≤ d) (os : List Nat) (h : ays am_c3 os True s = some (P, s')) (hP : P) (k : wp d 3 s' Q) : wp d 3 s Q := wp.pathm h6 am_m3 os True P s s' h hP k
theorem am_m4 : am_all[4]? = some (yX0_lendTo, cX0_lendTo, 3, (some .int), 0, 3, false, am_c4) := rfl
theorem pt4 {d : Nat} {s s' : S2} {P : Prop} {Q : Option V2 → W2 → Prop} (h6 : 6 ≤ d) (os : List Nat) (h : ays am_c4 os True s = some (P, s')) (hP : P) (k : wp d 4 s' Q) : wp d 4 s Q := wp.pathm h6 am_m4 os True P s s' h hP k
theorem am_m5 : am_all[5]? = some (yX0_placeSounds, cX0_placeSounds, 4, none, 0, 2, false, am_c5) := rfl
theorem pt5 {d : Nat} {s s' : S2} {P : Prop} {Q : Option V2 → W2 → Prop} (h6 : 6 ≤ d) (os : List Nat) (h : ays am_c5 os True s = some (P, s')) (hP : P) (k : wp d 5 s' Q) : wp d 5 s Q := wp.pathm h6 am_m5 os True P s s' h hP k
theorem am_m6 : am_all[6]? = some (yX0_findHolds, cX0_findHolds, 3, none, 0, 1, false, am_c6) := rfl
theorem pt6 {d : Nat} {s s' : S2} {P : Prop} {Q : Option V2 → W2 → Prop} (h6 : 6 ≤ d) (os : List Nat) (h : ays am_c6 os True s = some (P, s')) (hP : P) (k : wp d 6 s' Q) : wp d 6 s Q := wp.pathm h6 am_m6 os True P s s' h hP k
theorem am_m7 : am_all[7]? = some (yX0_firstOf, cX0_firstOf, 4, (some .int), 0, 2, false, am_c7) := rfl
theorem pt7 {d : Nat} {s s' : S2} {P : Prop} {Q : Option V2 → W2 → Prop} (h6 : 6 ≤ d) (os : List Nat) (h : ays am_c7 os True s = some (P, s')) (hP : P) (k : wp d 7 s' Q) : wp d 7 s Q := wp.pathm h6 am_m7 os True P s s' h hP k
theorem am_m8 : am_all[8]? = some (yX1_init, cX1_init, 1, none, 1, 1, false, am_c8) := rfl
theorem pt8 {d : Nat} {s s' : S2} {P : Prop} {Q : Option V2 → W2 → Prop} (h6 : 6 ≤ d) (os : List Nat) (h : ays am_c8 os True s = some (P, s')) (hP : P) (k : wp d 8 s' Q) : wp d 8 s Q := wp.pathm h6 am_m8 os True P s s' h hP k
theorem am_m9 : am_all[9]? = some (yX1_renew, cX1_renew, 4, none, 1, 3, false, am_c9) := rfl
theorem pt9 {d : Nat} {s s' : S2} {P : Prop} {Q : Option V2 → W2 → Prop} (h6 : 6 ≤ d) (os : List Nat) (h : ays am_c9 os True s = some (P, s')) (hP : P) (k : wp d 9 s' Q) : wp d 9 s Q := wp.pathm h6 am_m9 os True P s s' h hP k
theorem am_m10 : am_all[10]? = some (yX1_pulledParts, cX1_pulledParts, 8, (some .long), 1, 3, true, am_c10) := rfl
theorem pt10 {d : Nat} {s s' : S2} {P : Prop} {Q : Option V2 → W2 → Prop} (h6 : 6 ≤ d) (os : List Nat) (h : ays am_c10 os True s = some (P, s')) (hP : P) (k : wp d 10 s' Q) : wp d 10 s Q := wp.pathm h6 am_m10 os True P s s' h hP k
theorem am_m11 : am_all[11]? = some (yX1_smoothParts, cX1_smoothParts, 9, (some .long), 1, 4, false, am_c11) := rfl
theorem pt11 {d : Nat} {s s' : S2} {P : Prop} {Q : Option V2 → W2 → Prop} (h6 : 6 ≤ d) (os : List Nat) (h : ays am_c11 os True s = some (P, s')) (hP : P) (k : wp d 11 s' Q) : wp d 11 s Q := wp.pathm h6 am_m11 os True P s s' h hP k
theorem am_m12 : am_all[12]? = some (yX1_jumpParts, cX1_jumpParts, 8, (some .long), 1, 3, false, am_c12) := rfl
theorem pt12 {d : Nat} {s s' : S2} {P : Prop} {Q : Option V2 → W2 → Prop} (h6 : 6 ≤ d) (os : List Nat) (h : ays am_c12 os True s = some (P, s')) (hP : P) (k : wp d 12 s' Q) : wp d 12 s Q := wp.pathm h6 am_m12 os True P s s' h hP k
theorem am_m13 : am_all[13]? = some (yX2_init, cX2_init, 2, none, 2, 1, false, am_c13) := rfl
theorem pt13 {d : Nat} {s s' : S2} {P : Prop} {Q : Option V2 → W2 → Prop} (h6 : 6 ≤ d) (os : List Nat) (h : ays am_c13 os True s = some (P, s')) (hP : P) (k : wp d 13 s' Q) : wp d 13 s Q := wp.pathm h6 am_m13 os True P s s' h hP k
theorem am_m14 : am_all[14]? = some (yX2_add, cX2_add, 2, none, 2, 2, false, am_c14) := rfl
theorem pt14 {d : Nat} {s s' : S2} {P : Prop} {Q : Option V2 → W2 → Prop} (h6 : 6 ≤ d) (os : List Nat) (h : ays am_c14 os True s = some (P, s')) (hP : P) (k : wp d 14 s' Q) : wp d 14 s Q := wp.pathm h6 am_m14 os True P s s' h hP k
theorem am_m15 : am_all[15]? = some (yX2_loseOldest, cX2_loseOldest, 3, none, 2, 1, false, am_c15) := rfl
theorem pt15 {d : Nat} {s s' : S2} {P : Prop} {Q : Option V2 → W2 → Prop} (h6 : 6 ≤ d) (os : List Nat) (h : ays am_c15 os True s = some (P, s')) (hP : P) (k : wp d 15 s' Q) : wp d 15 s Q := wp.pathm h6 am_m15 os True P s s' h hP k
theorem am_m16 : am_all[16]? = some (yX2_takeLatest, cX2_takeLatest, 2, none, 2, 2, false, am_c16) := rfl
theorem pt16 {d : Nat} {s s' : S2} {P : Prop} {Q : Option V2 → W2 → Prop} (h6 : 6 ≤ d) (os : List Nat) (h : ays am_c16 os True s = some (P, s')) (hP : P) (k : wp d 16 s' Q) : wp d 16 s Q := wp.pathm h6 am_m16 os True P s s' h hP k
theorem am_m17 : am_all[17]? = some (yX2_become, cX2_become, 3, none, 2, 2, false, am_c17) := rfl
theorem pt17 {d : Nat} {s s' : S2} {P : Prop} {Q : Option V2 → W2 → Prop} (h6 : 6 ≤ d) (os : List Nat) (h : ays am_c17 os True s = some (P, s')) (hP : P) (k : wp d 17 s' Q) : wp d 17 s Q := wp.pathm h6 am_m17 os True P s s' h hP k
theorem am_m18 : am_all[18]? = some (yX3_init, cX3_init, 1, none, 3, 1, false, am_c18) := rfl
theorem pt18 {d : Nat} {s s' : S2} {P : Prop} {Q : Option V2 → W2 → Prop} (h6 : 6 ≤ d) (os : List Nat) (h : ays am_c18 os True s = some (P, s')) (hP : P) (k : wp d 18 s' Q) : wp d 18 s Q := wp.pathm h6 am_m18 os True P s s' h hP k
theorem am_m19 : am_all[19]? = some (yX3_start, cX3_start, 4, none, 3, 3, false, am_c19) := rfl
theorem pt19 {d : Nat} {s s' : S2} {P : Prop} {Q : Option V2 → W2 → Prop} (h6 : 6 ≤ d) (os : List Nat) (h : ays am_c19 os True s = some (P, s')) (hP : P) (k : wp d 19 s' Q) : wp d 19 s Q := wp.pathm h6 am_m19 os True P s s' h hP k
theorem am_m20 : am_all[20]? = some (yX3_holds, cX3_holds, 3, (some .boolean), 3, 3, false, am_c20) := rfl
theorem pt20 {d : Nat} {s s' : S2} {P : Prop} {Q : Option V2 → W2 → Prop} (h6 : 6 ≤ d) (os : List Nat) (h : ays am_c20 os True s = some (P, s')) (hP : P) (k : wp d 20 s' Q) : wp d 20 s Q := wp.pathm h6 am_m20 os True P s s' h hP k
theorem am_m21 : am_all[21]? = some (yX3_put, cX3_put, 4, none, 3, 3, false, am_c21) := rfl
theorem pt21 {d : Nat} {s s' : S2} {P : Prop} {Q : Option V2 → W2 → Prop} (h6 : 6 ≤ d) (os : List Nat) (h : ays am_c21 os True s = some (P, s')) (hP : P) (k : wp d 21 s' Q) : wp d 21 s Q := wp.pathm h6 am_m21 os True P s s' h hP k
theorem am_m22 : am_all[22]? = some (yX3_lookFrom, cX3_lookFrom, 5, (some .int), 3, 3, false, am_c22) := rfl
theorem pt22 {d : Nat} {s s' : S2} {P : Prop} {Q : Option V2 → W2 → Prop} (h6 : 6 ≤ d) (os : List Nat) (h : ays am_c22 os True s = some (P, s')) (hP : P) (k : wp d 22 s' Q) : wp d 22 s Q := wp.pathm h6 am_m22 os True P s s' h hP k
theorem am_m23 : am_all[23]? = some (yX4_init, cX4_init, 2, none, 4, 1, false, am_c23) := rfl
theorem pt23 {d : Nat} {s s' : S2} {P : Prop} {Q : Option V2 → W2 → Prop} (h6 : 6 ≤ d) (os : List Nat) (h : ays am_c23 os True s = some (P, s')) (hP : P) (k : wp d 23 s' Q) : wp d 23 s Q := wp.pathm h6 am_m23 os True P s s' h hP k
theorem am_m24 : am_all[24]? = some (yX4_become, cX4_become, 3, none, 4, 2, false, am_c24) := rfl
theorem pt24 {d : Nat} {s s' : S2} {P : Prop} {Q : Option V2 → W2 → Prop} (h6 : 6 ≤ d) (os : List Nat) (h : ays am_c24 os True s = some (P, s')) (hP : P) (k : wp d 24 s' Q) : wp d 24 s Q := wp.pathm h6 am_m24 os True P s s' h hP k
theorem am_m25 : am_all[25]? = some (yX4_extent, cX4_extent, 3, (some .int), 4, 3, false, am_c25) := rfl
theorem pt25 {d : Nat} {s s' : S2} {P : Prop} {Q : Option V2 → W2 → Prop} (h6 : 6 ≤ d) (os : List Nat) (h : ays am_c25 os True s = some (P, s')) (hP : P) (k : wp d 25 s' Q) : wp d 25 s Q := wp.pathm h6 am_m25 os True P s s' h hP k
theorem am_m26 : am_all[26]? = some (yX4_isClosed, cX4_isClosed, 2, (some .boolean), 4, 2, false, am_c26) := rfl
theorem pt26 {d : Nat} {s s' : S2} {P : Prop} {Q : Option V2 → W2 → Prop} (h6 : 6 ≤ d) (os : List Nat) (h : ays am_c26 os True s = some (P, s')) (hP : P) (k : wp d 26 s' Q) : wp d 26 s Q := wp.pathm h6 am_m26 os True P s s' h hP k
theorem am_m27 : am_all[27]? = some (yX4_startOf, cX4_startOf, 4, (some .int), 4, 2, false, am_c27) := rfl
theorem pt27 {d : Nat} {s s' : S2} {P : Prop} {Q : Option V2 → W2 → Prop} (h6 : 6 ≤ d) (os : List Nat) (h : ays am_c27 os True s = some (P, s')) (hP : P) (k : wp d 27 s' Q) : wp d 27 s Q := wp.pathm h6 am_m27 os True P s s' h hP k
theorem am_m28 : am_all[28]? = some (yX4_markOf, cX4_markOf, 2, (some .int), 4, 2, false, am_c28) := rfl
theorem pt28 {d : Nat} {s s' : S2} {P : Prop} {Q : Option V2 → W2 → Prop} (h6 : 6 ≤ d) (os : List Nat) (h : ays am_c28 os True s = some (P, s')) (hP : P) (k : wp d 28 s' Q) : wp d 28 s Q := wp.pathm h6 am_m28 os True P s s' h hP k
theorem am_m29 : am_all[29]? = some (yX4_markBy, cX4_markBy, 3, (some .int), 4, 3, true, am_c29) := rfl
theorem pt29 {d : Nat} {s s' : S2} {P : Prop} {Q : Option V2 → W2 → Prop} (h6 : 6 ≤ d) (os : List Nat) (h : ays am_c29 os True s = some (P, s')) (hP : P) (k : wp d 29 s' Q) : wp d 29 s Q := wp.pathm h6 am_m29 os True P s s' h hP k
theorem am_m30 : am_all[30]? = some (yX4_tellShape, cX4_tellShape, 5, (some .int), 4, 4, false, am_c30) := rfl
theorem pt30 {d : Nat} {s s' : S2} {P : Prop} {Q : Option V2 → W2 → Prop} (h6 : 6 ≤ d) (os : List Nat) (h : ays am_c30 os True s = some (P, s')) (hP : P) (k : wp d 30 s' Q) : wp d 30 s Q := wp.pathm h6 am_m30 os True P s s' h hP k
theorem am_m31 : am_all[31]? = some (yX4_tellSign, cX4_tellSign, 5, (some .int), 4, 4, false, am_c31) := rfl
theorem pt31 {d : Nat} {s s' : S2} {P : Prop} {Q : Option V2 → W2 → Prop} (h6 : 6 ≤ d) (os : List Nat) (h : ays am_c31 os True s = some (P, s')) (hP : P) (k : wp d 31 s' Q) : wp d 31 s Q := wp.pathm h6 am_m31 os True P s s' h hP k
theorem am_m32 : am_all[32]? = some (yX4_addSound, cX4_addSound, 3, (some .int), 4, 3, false, am_c32) := rfl
theorem pt32 {d : Nat} {s s' : S2} {P : Prop} {Q : Option V2 → W2 → Prop} (h6 : 6 ≤ d) (os : List Nat) (h : ays am_c32 os True s = some (P, s')) (hP : P) (k : wp d 32 s' Q) : wp d 32 s Q := wp.pathm h6 am_m32 os True P s s' h hP k
theorem am_m33 : am_all[33]? = some (yX4_removeSound, cX4_removeSound, 3, (some .int), 4, 2, false, am_c33) := rfl
theorem pt33 {d : Nat} {s s' : S2} {P : Prop} {Q : Option V2 → W2 → Prop} (h6 : 6 ≤ d) (os : List Nat) (h : ays am_c33 os True s = some (P, s')) (hP : P) (k : wp d 33 s' Q) : wp d 33 s Q := wp.pathm h6 am_m33 os True P s s' h hP k
theorem am_m34 : am_all[34]? = some (yX4_tellFrame, cX4_tellFrame, 4, (some .int), 4, 3, false, am_c34) := rfl
theorem pt34 {d : Nat} {s s' : S2} {P : Prop} {Q : Option V2 → W2 → Prop} (h6 : 6 ≤ d) (os : List Nat) (h : ays am_c34 os True s = some (P, s')) (hP : P) (k : wp d 34 s' Q) : wp d 34 s Q := wp.pathm h6 am_m34 os True P s s' h hP k
theorem am_m35 : am_all[35]? = some (yX4_tellWindow, cX4_tellWindow, 3, (some .int), 4, 2, false, am_c35) := rfl
theorem pt35 {d : Nat} {s s' : S2} {P : Prop} {Q : Option V2 → W2 → Prop} (h6 : 6 ≤ d) (os : List Nat) (h : ays am_c35 os True s = some (P, s')) (hP : P) (k : wp d 35 s' Q) : wp d 35 s Q := wp.pathm h6 am_m35 os True P s s' h hP k
theorem am_m36 : am_all[36]? = some (yX4_tellLine, cX4_tellLine, 6, (some .int), 4, 4, false, am_c36) := rfl
theorem pt36 {d : Nat} {s s' : S2} {P : Prop} {Q : Option V2 → W2 → Prop} (h6 : 6 ≤ d) (os : List Nat) (h : ays am_c36 os True s = some (P, s')) (hP : P) (k : wp d 36 s' Q) : wp d 36 s Q := wp.pathm h6 am_m36 os True P s s' h hP k
theorem am_m37 : am_all[37]? = some (yX4_addWord, cX4_addWord, 4, (some .int), 4, 4, false, am_c37) := rfl
theorem pt37 {d : Nat} {s s' : S2} {P : Prop} {Q : Option V2 → W2 → Prop} (h6 : 6 ≤ d) (os : List Nat) (h : ays am_c37 os True s = some (P, s')) (hP : P) (k : wp d 37 s' Q) : wp d 37 s Q := wp.pathm h6 am_m37 os True P s s' h hP k
theorem am_m38 : am_all[38]? = some (yX4_hasWord, cX4_hasWord, 4, (some .boolean), 4, 3, false, am_c38) := rfl
theorem pt38 {d : Nat} {s s' : S2} {P : Prop} {Q : Option V2 → W2 → Prop} (h6 : 6 ≤ d) (os : List Nat) (h : ays am_c38 os True s = some (P, s')) (hP : P) (k : wp d 38 s' Q) : wp d 38 s Q := wp.pathm h6 am_m38 os True P s s' h hP k
theorem am_m39 : am_all[39]? = some (yX4_startsLike, cX4_startsLike, 4, (some .boolean), 4, 3, true, am_c39) := rfl
theorem pt39 {d : Nat} {s s' : S2} {P : Prop} {Q : Option V2 → W2 → Prop} (h6 : 6 ≤ d) (os : List Nat) (h : ays am_c39 os True s = some (P, s')) (hP : P) (k : wp d 39 s' Q) : wp d 39 s Q := wp.pathm h6 am_m39 os True P s s' h hP k
theorem am_m40 : am_all[40]? = some (yX4_removeWord, cX4_removeWord, 3, (some .int), 4, 2, false, am_c40) := rfl
theorem pt40 {d : Nat} {s s' : S2} {P : Prop} {Q : Option V2 → W2 → Prop} (h6 : 6 ≤ d) (os : List Nat) (h : ays am_c40 os True s = some (P, s')) (hP : P) (k : wp d 40 s' Q) : wp d 40 s Q := wp.pathm h6 am_m40 os True P s s' h hP k
theorem am_m41 : am_all[41]? = some (yX4_lookOf, cX4_lookOf, 4, (some .int), 4, 2, false, am_c41) := rfl
theorem pt41 {d : Nat} {s s' : S2} {P : Prop} {Q : Option V2 → W2 → Prop} (h6 : 6 ≤ d) (os : List Nat) (h : ays am_c41 os True s = some (P, s')) (hP : P) (k : wp d 41 s' Q) : wp d 41 s Q := wp.pathm h6 am_m41 os True P s s' h hP k
theorem am_m42 : am_all[42]? = some (yX4_wordsLooking, cX4_wordsLooking, 4, (some .int), 4, 2, false, am_c42) := rfl
theorem pt42 {d : Nat} {s s' : S2} {P : Prop} {Q : Option V2 → W2 → Prop} (h6 : 6 ≤ d) (os : List Nat) (h : ays am_c42 os True s = some (P, s')) (hP : P) (k : wp d 42 s' Q) : wp d 42 s Q := wp.pathm h6 am_m42 os True P s s' h hP k
theorem am_m43 : am_all[43]? = some (yX4_guessedWeight, cX4_guessedWeight, 3, (some .int), 4, 1, false, am_c43) := rfl
theorem pt43 {d : Nat} {s s' : S2} {P : Prop} {Q : Option V2 → W2 → Prop} (h6 : 6 ≤ d) (os : List Nat) (h : ays am_c43 os True s = some (P, s')) (hP : P) (k : wp d 43 s' Q) : wp d 43 s Q := wp.pathm h6 am_m43 os True P s s' h hP k
theorem am_m44 : am_all[44]? = some (yX4_isGuessed, cX4_isGuessed, 5, (some .boolean), 4, 2, false, am_c44) := rfl
theorem pt44 {d : Nat} {s s' : S2} {P : Prop} {Q : Option V2 → W2 → Prop} (h6 : 6 ≤ d) (os : List Nat) (h : ays am_c44 os True s = some (P, s')) (hP : P) (k : wp d 44 s' Q) : wp d 44 s Q := wp.pathm h6 am_m44 os True P s s' h hP k
theorem am_m45 : am_all[45]? = some (yX4_allWeight, cX4_allWeight, 3, (some .int), 4, 1, false, am_c45) := rfl
theorem pt45 {d : Nat} {s s' : S2} {P : Prop} {Q : Option V2 → W2 → Prop} (h6 : 6 ≤ d) (os : List Nat) (h : ays am_c45 os True s = some (P, s')) (hP : P) (k : wp d 45 s' Q) : wp d 45 s Q := wp.pathm h6 am_m45 os True P s s' h hP k
theorem am_m46 : am_all[46]? = some (yX4_driftOnce, cX4_driftOnce, 5, none, 4, 1, false, am_c46) := rfl
theorem pt46 {d : Nat} {s s' : S2} {P : Prop} {Q : Option V2 → W2 → Prop} (h6 : 6 ≤ d) (os : List Nat) (h : ays am_c46 os True s = some (P, s')) (hP : P) (k : wp d 46 s' Q) : wp d 46 s Q := wp.pathm h6 am_m46 os True P s s' h hP k
theorem am_m47 : am_all[47]? = some (yX5_init, cX5_init, 1, none, 5, 1, false, am_c47) := rfl
theorem pt47 {d : Nat} {s s' : S2} {P : Prop} {Q : Option V2 → W2 → Prop} (h6 : 6 ≤ d) (os : List Nat) (h : ays am_c47 os True s = some (P, s')) (hP : P) (k : wp d 47 s' Q) : wp d 47 s Q := wp.pathm h6 am_m47 os True P s s' h hP k
theorem am_m48 : am_all[48]? = some (yX5_add, cX5_add, 2, (some .int), 5, 2, false, am_c48) := rfl
theorem pt48 {d : Nat} {s s' : S2} {P : Prop} {Q : Option V2 → W2 → Prop} (h6 : 6 ≤ d) (os : List Nat) (h : ays am_c48 os True s = some (P, s')) (hP : P) (k : wp d 48 s' Q) : wp d 48 s Q := wp.pathm h6 am_m48 os True P s s' h hP k
theorem am_m49 : am_all[49]? = some (yX5_clear, cX5_clear, 1, none, 5, 1, false, am_c49) := rfl
theorem pt49 {d : Nat} {s s' : S2} {P : Prop} {Q : Option V2 → W2 → Prop} (h6 : 6 ≤ d) (os : List Nat) (h : ays am_c49 os True s = some (P, s')) (hP : P) (k : wp d 49 s' Q) : wp d 49 s Q := wp.pathm h6 am_m49 os True P s s' h hP k
theorem am_m50 : am_all[50]? = some (yX5_parse, cX5_parse, 1, none, 5, 1, false, am_c50) := rfl
theorem pt50 {d : Nat} {s s' : S2} {P : Prop} {Q : Option V2 → W2 → Prop} (h6 : 6 ≤ d) (os : List Nat) (h : ays am_c50 os True s = some (P, s')) (hP : P) (k : wp d 50 s' Q) : wp d 50 s Q := wp.pathm h6 am_m50 os True P s s' h hP k
theorem am_m51 : am_all[51]? = some (yX5_parseName, cX5_parseName, 2, none, 5, 1, false, am_c51) := rfl
theorem pt51 {d : Nat} {s s' : S2} {P : Prop} {Q : Option V2 → W2 → Prop} (h6 : 6 ≤ d) (os : List Nat) (h : ays am_c51 os True s = some (P, s')) (hP : P) (k : wp d 51 s' Q) : wp d 51 s Q := wp.pathm h6 am_m51 os True P s s' h hP k
theorem am_m52 : am_all[52]? = some (yX5_kindFrom, cX5_kindFrom, 2, (some .int), 5, 2, false, am_c52) := rfl
theorem pt52 {d : Nat} {s s' : S2} {P : Prop} {Q : Option V2 → W2 → Prop} (h6 : 6 ≤ d) (os : List Nat) (h : ays am_c52 os True s = some (P, s')) (hP : P) (k : wp d 52 s' Q) : wp d 52 s Q := wp.pathm h6 am_m52 os True P s s' h hP k
theorem am_m53 : am_all[53]? = some (yX5_isName, cX5_isName, 4, (some .boolean), 5, 3, false, am_c53) := rfl
theorem pt53 {d : Nat} {s s' : S2} {P : Prop} {Q : Option V2 → W2 → Prop} (h6 : 6 ≤ d) (os : List Nat) (h : ays am_c53 os True s = some (P, s')) (hP : P) (k : wp d 53 s' Q) : wp d 53 s Q := wp.pathm h6 am_m53 os True P s s' h hP k
theorem am_m54 : am_all[54]? = some (yX5_parseSounds, cX5_parseSounds, 3, none, 5, 1, false, am_c54) := rfl
theorem pt54 {d : Nat} {s s' : S2} {P : Prop} {Q : Option V2 → W2 → Prop} (h6 : 6 ≤ d) (os : List Nat) (h : ays am_c54 os True s = some (P, s')) (hP : P) (k : wp d 54 s' Q) : wp d 54 s Q := wp.pathm h6 am_m54 os True P s s' h hP k
theorem am_m55 : am_all[55]? = some (yX5_parseSound, cX5_parseSound, 1, none, 5, 1, false, am_c55) := rfl
theorem pt55 {d : Nat} {s s' : S2} {P : Prop} {Q : Option V2 → W2 → Prop} (h6 : 6 ≤ d) (os : List Nat) (h : ays am_c55 os True s = some (P, s')) (hP : P) (k : wp d 55 s' Q) : wp d 55 s Q := wp.pathm h6 am_m55 os True P s s' h hP k
theorem am_m56 : am_all[56]? = some (yX5_takesComma, cX5_takesComma, 1, (some .boolean), 5, 1, false, am_c56) := rfl
theorem pt56 {d : Nat} {s s' : S2} {P : Prop} {Q : Option V2 → W2 → Prop} (h6 : 6 ≤ d) (os : List Nat) (h : ays am_c56 os True s = some (P, s')) (hP : P) (k : wp d 56 s' Q) : wp d 56 s Q := wp.pathm h6 am_m56 os True P s s' h hP k
theorem am_m57 : am_all[57]? = some (yX5_parseWord, cX5_parseWord, 1, none, 5, 1, false, am_c57) := rfl
theorem pt57 {d : Nat} {s s' : S2} {P : Prop} {Q : Option V2 → W2 → Prop} (h6 : 6 ≤ d) (os : List Nat) (h : ays am_c57 os True s = some (P, s')) (hP : P) (k : wp d 57 s' Q) : wp d 57 s Q := wp.pathm h6 am_m57 os True P s s' h hP k
theorem am_m58 : am_all[58]? = some (yX5_parseFrame, cX5_parseFrame, 1, none, 5, 1, false, am_c58) := rfl
theorem pt58 {d : Nat} {s s' : S2} {P : Prop} {Q : Option V2 → W2 → Prop} (h6 : 6 ≤ d) (os : List Nat) (h : ays am_c58 os True s = some (P, s')) (hP : P) (k : wp d 58 s' Q) : wp d 58 s Q := wp.pathm h6 am_m58 os True P s s' h hP k
theorem am_m59 : am_all[59]? = some (yX5_take, cX5_take, 2, none, 5, 2, false, am_c59) := rfl
theorem pt59 {d : Nat} {s s' : S2} {P : Prop} {Q : Option V2 → W2 → Prop} (h6 : 6 ≤ d) (os : List Nat) (h : ays am_c59 os True s = some (P, s')) (hP : P) (k : wp d 59 s' Q) : wp d 59 s Q := wp.pathm h6 am_m59 os True P s s' h hP k
theorem am_m60 : am_all[60]? = some (yX5_figure, cX5_figure, 3, (some .int), 5, 3, false, am_c60) := rfl
theorem pt60 {d : Nat} {s s' : S2} {P : Prop} {Q : Option V2 → W2 → Prop} (h6 : 6 ≤ d) (os : List Nat) (h : ays am_c60 os True s = some (P, s')) (hP : P) (k : wp d 60 s' Q) : wp d 60 s Q := wp.pathm h6 am_m60 os True P s s' h hP k
theorem am_m61 : am_all[61]? = some (yX5_number, cX5_number, 3, (some .int), 5, 1, false, am_c61) := rfl
theorem pt61 {d : Nat} {s s' : S2} {P : Prop} {Q : Option V2 → W2 → Prop} (h6 : 6 ≤ d) (os : List Nat) (h : ays am_c61 os True s = some (P, s')) (hP : P) (k : wp d 61 s' Q) : wp d 61 s Q := wp.pathm h6 am_m61 os True P s s' h hP k
theorem am_m62 : am_all[62]? = some (yX5_skipBlanks, cX5_skipBlanks, 1, none, 5, 1, false, am_c62) := rfl
theorem pt62 {d : Nat} {s s' : S2} {P : Prop} {Q : Option V2 → W2 → Prop} (h6 : 5 ≤ d) (os : List Nat) (h : ays am_c62 os True s = some (P, s')) (hP : P) (k : wp d 62 s' Q) : wp d 62 s Q := wp.pathm h6 am_m62 os True P s s' h hP k
theorem am_m63 : am_all[63]? = some (yX5_stands, cX5_stands, 3, (some .boolean), 5, 3, false, am_c63) := rfl
theorem pt63 {d : Nat} {s s' : S2} {P : Prop} {Q : Option V2 → W2 → Prop} (h6 : 5 ≤ d) (os : List Nat) (h : ays am_c63 os True s = some (P, s')) (hP : P) (k : wp d 63 s' Q) : wp d 63 s Q := wp.pathm h6 am_m63 os True P s s' h hP k
theorem am_m64 : am_all[64]? = some (yX5_fail, cX5_fail, 2, none, 5, 2, false, am_c64) := rfl
theorem pt64 {d : Nat} {s s' : S2} {P : Prop} {Q : Option V2 → W2 → Prop} (h6 : 5 ≤ d) (os : List Nat) (h : ays am_c64 os True s = some (P, s')) (hP : P) (k : wp d 64 s' Q) : wp d 64 s Q := wp.pathm h6 am_m64 os True P s s' h hP k
theorem am_m65 : am_all[65]? = some (yX6_init, cX6_init, 2, none, 6, 1, false, am_c65) := rfl
theorem pt65 {d : Nat} {s s' : S2} {P : Prop} {Q : Option V2 → W2 → Prop} (h6 : 6 ≤ d) (os : List Nat) (h : ays am_c65 os True s = some (P, s')) (hP : P) (k : wp d 65 s' Q) : wp d 65 s Q := wp.pathm h6 am_m65 os True P s s' h hP k
theorem am_m66 : am_all[66]? = some (yX6_shape, cX6_shape, 4, (some .int), 6, 4, false, am_c66) := rfl
theorem pt66 {d : Nat} {s s' : S2} {P : Prop} {Q : Option V2 → W2 → Prop} (h6 : 6 ≤ d) (os : List Nat) (h : ays am_c66 os True s = some (P, s')) (hP : P) (k : wp d 66 s' Q) : wp d 66 s Q := wp.pathm h6 am_m66 os True P s s' h hP k
theorem am_m67 : am_all[67]? = some (yX6_sign, cX6_sign, 4, (some .int), 6, 4, false, am_c67) := rfl
theorem pt67 {d : Nat} {s s' : S2} {P : Prop} {Q : Option V2 → W2 → Prop} (h6 : 6 ≤ d) (os : List Nat) (h : ays am_c67 os True s = some (P, s')) (hP : P) (k : wp d 67 s' Q) : wp d 67 s Q := wp.pathm h6 am_m67 os True P s s' h hP k
theorem am_m68 : am_all[68]? = some (yX6_sound, cX6_sound, 3, (some .int), 6, 3, false, am_c68) := rfl
theorem pt68 {d : Nat} {s s' : S2} {P : Prop} {Q : Option V2 → W2 → Prop} (h6 : 6 ≤ d) (os : List Nat) (h : ays am_c68 os True s = some (P, s')) (hP : P) (k : wp d 68 s' Q) : wp d 68 s Q := wp.pathm h6 am_m68 os True P s s' h hP k
theorem am_m69 : am_all[69]? = some (yX6_out, cX6_out, 2, (some .int), 6, 2, false, am_c69) := rfl
theorem pt69 {d : Nat} {s s' : S2} {P : Prop} {Q : Option V2 → W2 → Prop} (h6 : 6 ≤ d) (os : List Nat) (h : ays am_c69 os True s = some (P, s')) (hP : P) (k : wp d 69 s' Q) : wp d 69 s Q := wp.pathm h6 am_m69 os True P s s' h hP k
theorem am_m70 : am_all[70]? = some (yX6_frame, cX6_frame, 3, (some .int), 6, 3, false, am_c70) := rfl
theorem pt70 {d : Nat} {s s' : S2} {P : Prop} {Q : Option V2 → W2 → Prop} (h6 : 6 ≤ d) (os : List Nat) (h : ays am_c70 os True s = some (P, s')) (hP : P) (k : wp d 70 s' Q) : wp d 70 s Q := wp.pathm h6 am_m70 os True P s s' h hP k
theorem am_m71 : am_all[71]? = some (yX6_window, cX6_window, 2, (some .int), 6, 2, false, am_c71) := rfl
theorem pt71 {d : Nat} {s s' : S2} {P : Prop} {Q : Option V2 → W2 → Prop} (h6 : 6 ≤ d) (os : List Nat) (h : ays am_c71 os True s = some (P, s')) (hP : P) (k : wp d 71 s' Q) : wp d 71 s Q := wp.pathm h6 am_m71 os True P s s' h hP k
theorem am_m72 : am_all[72]? = some (yX6_told, cX6_told, 3, (some .int), 6, 3, false, am_c72) := rfl
theorem pt72 {d : Nat} {s s' : S2} {P : Prop} {Q : Option V2 → W2 → Prop} (h6 : 6 ≤ d) (os : List Nat) (h : ays am_c72 os True s = some (P, s')) (hP : P) (k : wp d 72 s' Q) : wp d 72 s Q := wp.pathm h6 am_m72 os True P s s' h hP k
theorem am_m73 : am_all[73]? = some (yX6_sounds, cX6_sounds, 3, (some .int), 6, 3, false, am_c73) := rfl
theorem pt73 {d : Nat} {s s' : S2} {P : Prop} {Q : Option V2 → W2 → Prop} (h6 : 6 ≤ d) (os : List Nat) (h : ays am_c73 os True s = some (P, s')) (hP : P) (k : wp d 73 s' Q) : wp d 73 s Q := wp.pathm h6 am_m73 os True P s s' h hP k
theorem am_m74 : am_all[74]? = some (yX6_at, cX6_at, 3, (some .int), 6, 3, false, am_c74) := rfl
theorem pt74 {d : Nat} {s s' : S2} {P : Prop} {Q : Option V2 → W2 → Prop} (h6 : 6 ≤ d) (os : List Nat) (h : ays am_c74 os True s = some (P, s')) (hP : P) (k : wp d 74 s' Q) : wp d 74 s Q := wp.pathm h6 am_m74 os True P s s' h hP k
theorem am_m75 : am_all[75]? = some (yX6_count, cX6_count, 2, (some .int), 6, 2, false, am_c75) := rfl
theorem pt75 {d : Nat} {s s' : S2} {P : Prop} {Q : Option V2 → W2 → Prop} (h6 : 6 ≤ d) (os : List Nat) (h : ays am_c75 os True s = some (P, s')) (hP : P) (k : wp d 75 s' Q) : wp d 75 s Q := wp.pathm h6 am_m75 os True P s s' h hP k
theorem am_m76 : am_all[76]? = some (yX6_pulled, cX6_pulled, 4, (some .int), 6, 4, false, am_c76) := rfl
theorem pt76 {d : Nat} {s s' : S2} {P : Prop} {Q : Option V2 → W2 → Prop} (h6 : 6 ≤ d) (os : List Nat) (h : ays am_c76 os True s = some (P, s')) (hP : P) (k : wp d 76 s' Q) : wp d 76 s Q := wp.pathm h6 am_m76 os True P s s' h hP k
theorem am_m77 : am_all[77]? = some (yX6_smooth, cX6_smooth, 4, (some .long), 6, 4, false, am_c77) := rfl
theorem pt77 {d : Nat} {s s' : S2} {P : Prop} {Q : Option V2 → W2 → Prop} (h6 : 6 ≤ d) (os : List Nat) (h : ays am_c77 os True s = some (P, s')) (hP : P) (k : wp d 77 s' Q) : wp d 77 s Q := wp.pathm h6 am_m77 os True P s s' h hP k
theorem am_m78 : am_all[78]? = some (yX6_jump, cX6_jump, 3, (some .long), 6, 3, false, am_c78) := rfl
theorem pt78 {d : Nat} {s s' : S2} {P : Prop} {Q : Option V2 → W2 → Prop} (h6 : 6 ≤ d) (os : List Nat) (h : ays am_c78 os True s = some (P, s')) (hP : P) (k : wp d 78 s' Q) : wp d 78 s Q := wp.pathm h6 am_m78 os True P s s' h hP k
theorem am_m79 : am_all[79]? = some (yX6_calm, cX6_calm, 4, (some .int), 6, 3, false, am_c79) := rfl
theorem pt79 {d : Nat} {s s' : S2} {P : Prop} {Q : Option V2 → W2 → Prop} (h6 : 6 ≤ d) (os : List Nat) (h : ays am_c79 os True s = some (P, s')) (hP : P) (k : wp d 79 s' Q) : wp d 79 s Q := wp.pathm h6 am_m79 os True P s s' h hP k
theorem am_m80 : am_all[80]? = some (yX6_off, cX6_off, 5, (some .int), 6, 3, false, am_c80) := rfl
theorem pt80 {d : Nat} {s s' : S2} {P : Prop} {Q : Option V2 → W2 → Prop} (h6 : 6 ≤ d) (os : List Nat) (h : ays am_c80 os True s = some (P, s')) (hP : P) (k : wp d 80 s' Q) : wp d 80 s Q := wp.pathm h6 am_m80 os True P s s' h hP k
theorem am_m81 : am_all[81]? = some (yX6_forget, cX6_forget, 2, (some .int), 6, 2, false, am_c81) := rfl
theorem pt81 {d : Nat} {s s' : S2} {P : Prop} {Q : Option V2 → W2 → Prop} (h6 : 6 ≤ d) (os : List Nat) (h : ays am_c81 os True s = some (P, s')) (hP : P) (k : wp d 81 s' Q) : wp d 81 s Q := wp.pathm h6 am_m81 os True P s s' h hP k
theorem am_m82 : am_all[82]? = some (yX6_word, cX6_word, 3, (some .int), 6, 3, false, am_c82) := rfl
theorem pt82 {d : Nat} {s s' : S2} {P : Prop} {Q : Option V2 → W2 → Prop} (h6 : 6 ≤ d) (os : List Nat) (h : ays am_c82 os True s = some (P, s')) (hP : P) (k : wp d 82 s' Q) : wp d 82 s Q := wp.pathm h6 am_m82 os True P s s' h hP k
theorem am_m83 : am_all[83]? = some (yX6_letter, cX6_letter, 3, (some .int), 6, 3, false, am_c83) := rfl
theorem pt83 {d : Nat} {s s' : S2} {P : Prop} {Q : Option V2 → W2 → Prop} (h6 : 6 ≤ d) (os : List Nat) (h : ays am_c83 os True s = some (P, s')) (hP : P) (k : wp d 83 s' Q) : wp d 83 s Q := wp.pathm h6 am_m83 os True P s s' h hP k
theorem am_m84 : am_all[84]? = some (yX6_guess, cX6_guess, 2, (some .int), 6, 2, false, am_c84) := rfl
theorem pt84 {d : Nat} {s s' : S2} {P : Prop} {Q : Option V2 → W2 → Prop} (h6 : 6 ≤ d) (os : List Nat) (h : ays am_c84 os True s = some (P, s')) (hP : P) (k : wp d 84 s' Q) : wp d 84 s Q := wp.pathm h6 am_m84 os True P s s' h hP k
theorem am_m85 : am_all[85]? = some (yX6_type, cX6_type, 2, (some .int), 6, 2, false, am_c85) := rfl
theorem pt85 {d : Nat} {s s' : S2} {P : Prop} {Q : Option V2 → W2 → Prop} (h6 : 6 ≤ d) (os : List Nat) (h : ays am_c85 os True s = some (P, s')) (hP : P) (k : wp d 85 s' Q) : wp d 85 s Q := wp.pathm h6 am_m85 os True P s s' h hP k
theorem am_m86 : am_all[86]? = some (yX6_read, cX6_read, 1, (some .int), 6, 1, false, am_c86) := rfl
theorem pt86 {d : Nat} {s s' : S2} {P : Prop} {Q : Option V2 → W2 → Prop} (h6 : 6 ≤ d) (os : List Nat) (h : ays am_c86 os True s = some (P, s')) (hP : P) (k : wp d 86 s' Q) : wp d 86 s Q := wp.pathm h6 am_m86 os True P s s' h hP k
theorem am_m87 : am_all[87]? = some (yX6_drift, cX6_drift, 3, (some .int), 6, 2, false, am_c87) := rfl
theorem pt87 {d : Nat} {s s' : S2} {P : Prop} {Q : Option V2 → W2 → Prop} (h6 : 6 ≤ d) (os : List Nat) (h : ays am_c87 os True s = some (P, s')) (hP : P) (k : wp d 87 s' Q) : wp d 87 s Q := wp.pathm h6 am_m87 os True P s s' h hP k
theorem am_m88 : am_all[88]? = some (yX6_undo, cX6_undo, 1, (some .int), 6, 1, false, am_c88) := rfl
theorem pt88 {d : Nat} {s s' : S2} {P : Prop} {Q : Option V2 → W2 → Prop} (h6 : 6 ≤ d) (os : List Nat) (h : ays am_c88 os True s = some (P, s')) (hP : P) (k : wp d 88 s' Q) : wp d 88 s Q := wp.pathm h6 am_m88 os True P s s' h hP k
theorem am_m89 : am_all[89]? = some (yX6_seed, cX6_seed, 3, (some .int), 6, 2, false, am_c89) := rfl
theorem pt89 {d : Nat} {s s' : S2} {P : Prop} {Q : Option V2 → W2 → Prop} (h6 : 6 ≤ d) (os : List Nat) (h : ays am_c89 os True s = some (P, s')) (hP : P) (k : wp d 89 s' Q) : wp d 89 s Q := wp.pathm h6 am_m89 os True P s s' h hP k
theorem am_m90 : am_all[90]? = some (yX6_image, cX6_image, 1, (some .int), 6, 1, false, am_c90) := rfl
theorem pt90 {d : Nat} {s s' : S2} {P : Prop} {Q : Option V2 → W2 → Prop} (h6 : 6 ≤ d) (os : List Nat) (h : ays am_c90 os True s = some (P, s')) (hP : P) (k : wp d 90 s' Q) : wp d 90 s Q := wp.pathm h6 am_m90 os True P s s' h hP k
theorem am_m91 : am_all[91]? = some (yX6_restore, cX6_restore, 1, (some .int), 6, 1, false, am_c91) := rfl
theorem pt91 {d : Nat} {s s' : S2} {P : Prop} {Q : Option V2 → W2 → Prop} (h6 : 6 ≤ d) (os : List Nat) (h : ays am_c91 os True s = some (P, s')) (hP : P) (k : wp d 91 s' Q) : wp d 91 s Q := wp.pathm h6 am_m91 os True P s s' h hP k
theorem am_m92 : am_all[92]? = some (yX6_seen, cX6_seen, 7, (some .int), 6, 5, false, am_c92) := rfl
theorem pt92 {d : Nat} {s s' : S2} {P : Prop} {Q : Option V2 → W2 → Prop} (h6 : 6 ≤ d) (os : List Nat) (h : ays am_c92 os True s = some (P, s')) (hP : P) (k : wp d 92 s' Q) : wp d 92 s Q := wp.pathm h6 am_m92 os True P s s' h hP k
theorem am_m93 : am_all[93]? = some (yX6_film, cX6_film, 6, (some .int), 6, 4, false, am_c93) := rfl
theorem pt93 {d : Nat} {s s' : S2} {P : Prop} {Q : Option V2 → W2 → Prop} (h6 : 6 ≤ d) (os : List Nat) (h : ays am_c93 os True s = some (P, s')) (hP : P) (k : wp d 93 s' Q) : wp d 93 s Q := wp.pathm h6 am_m93 os True P s s' h hP k
theorem am_m94 : am_all[94]? = some (yX6_sheet, cX6_sheet, 4, (some .int), 6, 4, false, am_c94) := rfl
theorem pt94 {d : Nat} {s s' : S2} {P : Prop} {Q : Option V2 → W2 → Prop} (h6 : 6 ≤ d) (os : List Nat) (h : ays am_c94 os True s = some (P, s')) (hP : P) (k : wp d 94 s' Q) : wp d 94 s Q := wp.pathm h6 am_m94 os True P s s' h hP k
theorem am_m95 : am_all[95]? = some (yX6_drop, cX6_drop, 2, (some .int), 6, 2, false, am_c95) := rfl
theorem pt95 {d : Nat} {s s' : S2} {P : Prop} {Q : Option V2 → W2 → Prop} (h6 : 6 ≤ d) (os : List Nat) (h : ays am_c95 os True s = some (P, s')) (hP : P) (k : wp d 95 s' Q) : wp d 95 s Q := wp.pathm h6 am_m95 os True P s s' h hP k
theorem am_m96 : am_all[96]? = some (yX6_item, cX6_item, 7, (some .int), 6, 5, false, am_c96) := rfl
theorem pt96 {d : Nat} {s s' : S2} {P : Prop} {Q : Option V2 → W2 → Prop} (h6 : 6 ≤ d) (os : List Nat) (h : ays am_c96 os True s = some (P, s')) (hP : P) (k : wp d 96 s' Q) : wp d 96 s Q := wp.pathm h6 am_m96 os True P s s' h hP k
theorem am_m97 : am_all[97]? = some (yX6_item, cX6_item, 7, (some .int), 6, 5, false, am_c97) := rfl
theorem pt97 {d : Nat} {s s' : S2} {P : Prop} {Q : Option V2 → W2 → Prop} (h6 : 6 ≤ d) (os : List Nat) (h : ays am_c97 os True s = some (P, s')) (hP : P) (k : wp d 97 s' Q) : wp d 97 s Q := wp.pathm h6 am_m97 os True P s s' h hP k
theorem am_m98 : am_all[98]? = some (yX6_known, cX6_known, 2, (some .int), 6, 2, false, am_c98) := rfl
theorem pt98 {d : Nat} {s s' : S2} {P : Prop} {Q : Option V2 → W2 → Prop} (h6 : 6 ≤ d) (os : List Nat) (h : ays am_c98 os True s = some (P, s')) (hP : P) (k : wp d 98 s' Q) : wp d 98 s Q := wp.pathm h6 am_m98 os True P s s' h hP k
theorem am_m99 : am_all[99]? = some (yX6_tellText, cX6_tellText, 1, (some .int), 6, 1, false, am_c99) := rfl
theorem pt99 {d : Nat} {s s' : S2} {P : Prop} {Q : Option V2 → W2 → Prop} (h6 : 6 ≤ d) (os : List Nat) (h : ays am_c99 os True s = some (P, s')) (hP : P) (k : wp d 99 s' Q) : wp d 99 s Q := wp.pathm h6 am_m99 os True P s s' h hP k
theorem am_m100 : am_all[100]? = some (yX6_refusedRow, cX6_refusedRow, 3, (some .int), 6, 3, false, am_c100) := rfl
theorem pt100 {d : Nat} {s s' : S2} {P : Prop} {Q : Option V2 → W2 → Prop} (h6 : 6 ≤ d) (os : List Nat) (h : ays am_c100 os True s = some (P, s')) (hP : P) (k : wp d 100 s' Q) : wp d 100 s Q := wp.pathm h6 am_m100 os True P s s' h hP k
theorem am_m101 : am_all[101]? = some (yX6_within, cX6_within, 3, (some .boolean), 6, 3, true, am_c101) := rfl
theorem pt101 {d : Nat} {s s' : S2} {P : Prop} {Q : Option V2 → W2 → Prop} (h6 : 6 ≤ d) (os : List Nat) (h : ays am_c101 os True s = some (P, s')) (hP : P) (k : wp d 101 s' Q) : wp d 101 s Q := wp.pathm h6 am_m101 os True P s s' h hP k
theorem am_m102 : am_all[102]? = some (yX6_isAxis, cX6_isAxis, 1, (some .boolean), 6, 1, true, am_c102) := rfl
theorem pt102 {d : Nat} {s s' : S2} {P : Prop} {Q : Option V2 → W2 → Prop} (h6 : 6 ≤ d) (os : List Nat) (h : ays am_c102 os True s = some (P, s')) (hP : P) (k : wp d 102 s' Q) : wp d 102 s Q := wp.pathm h6 am_m102 os True P s s' h hP k
theorem am_m103 : am_all[103]? = some (yX6_isPart, cX6_isPart, 1, (some .boolean), 6, 1, true, am_c103) := rfl
theorem pt103 {d : Nat} {s s' : S2} {P : Prop} {Q : Option V2 → W2 → Prop} (h6 : 6 ≤ d) (os : List Nat) (h : ays am_c103 os True s = some (P, s')) (hP : P) (k : wp d 103 s' Q) : wp d 103 s Q := wp.pathm h6 am_m103 os True P s s' h hP k
theorem am_m104 : am_all[104]? = some (yX6_isSheet, cX6_isSheet, 1, (some .boolean), 6, 1, true, am_c104) := rfl
theorem pt104 {d : Nat} {s s' : S2} {P : Prop} {Q : Option V2 → W2 → Prop} (h6 : 6 ≤ d) (os : List Nat) (h : ays am_c104 os True s = some (P, s')) (hP : P) (k : wp d 104 s' Q) : wp d 104 s Q := wp.pathm h6 am_m104 os True P s s' h hP k
theorem am_m105 : am_all[105]? = some (yX6_fraction, cX6_fraction, 5, (some .long), 6, 3, true, am_c105) := rfl
theorem pt105 {d : Nat} {s s' : S2} {P : Prop} {Q : Option V2 → W2 → Prop} (h6 : 6 ≤ d) (os : List Nat) (h : ays am_c105 os True s = some (P, s')) (hP : P) (k : wp d 105 s' Q) : wp d 105 s Q := wp.pathm h6 am_m105 os True P s s' h hP k
theorem am_m106 : am_all[106]? = some (yX6_quotient, cX6_quotient, 4, (some .long), 6, 2, true, am_c106) := rfl
theorem pt106 {d : Nat} {s s' : S2} {P : Prop} {Q : Option V2 → W2 → Prop} (h6 : 6 ≤ d) (os : List Nat) (h : ays am_c106 os True s = some (P, s')) (hP : P) (k : wp d 106 s' Q) : wp d 106 s Q := wp.pathm h6 am_m106 os True P s s' h hP k
theorem am_m107 : am_all[107]? = some (yX6_commonDivisor, cX6_commonDivisor, 7, (some .long), 6, 2, true, am_c107) := rfl
theorem pt107 {d : Nat} {s s' : S2} {P : Prop} {Q : Option V2 → W2 → Prop} (h6 : 6 ≤ d) (os : List Nat) (h : ays am_c107 os True s = some (P, s')) (hP : P) (k : wp d 107 s' Q) : wp d 107 s Q := wp.pathm h6 am_m107 os True P s s' h hP k
theorem am_m108 : am_all[108]? = some (yX6_lookAnd, cX6_lookAnd, 3, (some .int), 6, 2, true, am_c108) := rfl
theorem pt108 {d : Nat} {s s' : S2} {P : Prop} {Q : Option V2 → W2 → Prop} (h6 : 6 ≤ d) (os : List Nat) (h : ays am_c108 os True s = some (P, s')) (hP : P) (k : wp d 108 s' Q) : wp d 108 s Q := wp.pathm h6 am_m108 os True P s s' h hP k
theorem am_m109 : am_all[109]? = some (yX6_lookLength, cX6_lookLength, 2, (some .int), 6, 1, true, am_c109) := rfl
theorem pt109 {d : Nat} {s s' : S2} {P : Prop} {Q : Option V2 → W2 → Prop} (h6 : 6 ≤ d) (os : List Nat) (h : ays am_c109 os True s = some (P, s')) (hP : P) (k : wp d 109 s' Q) : wp d 109 s Q := wp.pathm h6 am_m109 os True P s s' h hP k
theorem am_m110 : am_all[110]? = some (yX6_leastOf, cX6_leastOf, 2, (some .int), 6, 1, true, am_c110) := rfl
theorem pt110 {d : Nat} {s s' : S2} {P : Prop} {Q : Option V2 → W2 → Prop} (h6 : 6 ≤ d) (os : List Nat) (h : ays am_c110 os True s = some (P, s')) (hP : P) (k : wp d 110 s' Q) : wp d 110 s Q := wp.pathm h6 am_m110 os True P s s' h hP k
theorem am_m111 : am_all[111]? = some (yJ6_bitCount_0f7a4, cJ6_bitCount_0f7a4, 1, (some .int), 9, 1, true, am_c111) := rfl
theorem pt111 {d : Nat} {s s' : S2} {P : Prop} {Q : Option V2 → W2 → Prop} (h6 : 6 ≤ d) (os : List Nat) (h : ays am_c111 os True s = some (P, s')) (hP : P) (k : wp d 111 s' Q) : wp d 111 s Q := wp.pathm h6 am_m111 os True P s s' h hP k
theorem am_m112 : am_all[112]? = some (yL_cell, cL_cell, 2, (some .int), 8, 2, true, am_c112) := rfl
theorem pt112 {d : Nat} {s s' : S2} {P : Prop} {Q : Option V2 → W2 → Prop} (h6 : 6 ≤ d) (os : List Nat) (h : ays am_c112 os True s = some (P, s')) (hP : P) (k : wp d 112 s' Q) : wp d 112 s Q := wp.pathm h6 am_m112 os True P s s' h hP k
theorem am_m113 : am_all[113]? = some (yL_bits, cL_bits, 3, (some .int), 8, 1, true, am_c113) := rfl
theorem pt113 {d : Nat} {s s' : S2} {P : Prop} {Q : Option V2 → W2 → Prop} (h6 : 6 ≤ d) (os : List Nat) (h : ays am_c113 os True s = some (P, s')) (hP : P) (k : wp d 113 s' Q) : wp d 113 s Q := wp.pathm h6 am_m113 os True P s s' h hP k
theorem am_m114 : am_all[114]? = some (yL_divisor, cL_divisor, 10, (some .long), 8, 2, true, am_c114) := rfl
theorem pt114 {d : Nat} {s s' : S2} {P : Prop} {Q : Option V2 → W2 → Prop} (h6 : 6 ≤ d) (os : List Nat) (h : ays am_c114 os True s = some (P, s')) (hP : P) (k : wp d 114 s' Q) : wp d 114 s Q := wp.pathm h6 am_m114 os True P s s' h hP k
theorem am_m115 : am_all[115]? = some (yL_builds, cL_builds, 8, (some .boolean), 8, 2, true, am_c115) := rfl
theorem pt115 {d : Nat} {s s' : S2} {P : Prop} {Q : Option V2 → W2 → Prop} (h6 : 6 ≤ d) (os : List Nat) (h : ays am_c115 os True s = some (P, s')) (hP : P) (k : wp d 115 s' Q) : wp d 115 s Q := wp.pathm h6 am_m115 os True P s s' h hP k
theorem am_m116 : am_all[116]? = some (yL_words, cL_words, 10, (some .boolean), 8, 3, true, am_c116) := rfl
theorem pt116 {d : Nat} {s s' : S2} {P : Prop} {Q : Option V2 → W2 → Prop} (h6 : 6 ≤ d) (os : List Nat) (h : ays am_c116 os True s = some (P, s')) (hP : P) (k : wp d 116 s' Q) : wp d 116 s Q := wp.pathm h6 am_m116 os True P s s' h hP k
theorem am_m117 : am_all[117]? = some (yL_frames, cL_frames, 13, (some .boolean), 8, 1, true, am_c117) := rfl
theorem pt117 {d : Nat} {s s' : S2} {P : Prop} {Q : Option V2 → W2 → Prop} (h6 : 6 ≤ d) (os : List Nat) (h : ays am_c117 os True s = some (P, s')) (hP : P) (k : wp d 117 s' Q) : wp d 117 s Q := wp.pathm h6 am_m117 os True P s s' h hP k
theorem am_m118 : am_all[118]? = some (yL_seen, cL_seen, 30, (some .boolean), 8, 2, true, am_c118) := rfl
theorem pt118 {d : Nat} {s s' : S2} {P : Prop} {Q : Option V2 → W2 → Prop} (h6 : 6 ≤ d) (os : List Nat) (h : ays am_c118 os True s = some (P, s')) (hP : P) (k : wp d 118 s' Q) : wp d 118 s Q := wp.pathm h6 am_m118 os True P s s' h hP k
theorem am_m119 : am_all[119]? = some (yL_lists, cL_lists, 10, (some .boolean), 8, 1, true, am_c119) := rfl
theorem pt119 {d : Nat} {s s' : S2} {P : Prop} {Q : Option V2 → W2 → Prop} (h6 : 6 ≤ d) (os : List Nat) (h : ays am_c119 os True s = some (P, s')) (hP : P) (k : wp d 119 s' Q) : wp d 119 s Q := wp.pathm h6 am_m119 os True P s s' h hP k
theorem am_m120 : am_all[120]? = some (yL_shown, cL_shown, 8, (some .boolean), 8, 2, true, am_c120) := rfl
theorem pt120 {d : Nat} {s s' : S2} {P : Prop} {Q : Option V2 → W2 → Prop} (h6 : 6 ≤ d) (os : List Nat) (h : ays am_c120 os True s = some (P, s')) (hP : P) (k : wp d 120 s' Q) : wp d 120 s Q := wp.pathm h6 am_m120 os True P s s' h hP k
theorem am_m121 : am_all[121]? = some (yL_mark, cL_mark, 4, (some .long), 8, 1, true, am_c121) := rfl
theorem pt121 {d : Nat} {s s' : S2} {P : Prop} {Q : Option V2 → W2 → Prop} (h6 : 6 ≤ d) (os : List Nat) (h : ays am_c121 os True s = some (P, s')) (hP : P) (k : wp d 121 s' Q) : wp d 121 s Q := wp.pathm h6 am_m121 os True P s s' h hP k
theorem am_m122 : am_all[122]? = some (yL_back, cL_back, 11, (some .boolean), 8, 2, true, am_c122) := rfl
theorem pt122 {d : Nat} {s s' : S2} {P : Prop} {Q : Option V2 → W2 → Prop} (h6 : 6 ≤ d) (os : List Nat) (h : ays am_c122 os True s = some (P, s')) (hP : P) (k : wp d 122 s' Q) : wp d 122 s Q := wp.pathm h6 am_m122 os True P s s' h hP k
theorem am_m123 : am_all[123]? = some (yL_law, cL_law, 7, (some .boolean), 8, 1, true, am_c123) := rfl
theorem pt123 {d : Nat} {s s' : S2} {P : Prop} {Q : Option V2 → W2 → Prop} (h6 : 6 ≤ d) (os : List Nat) (h : ays am_c123 os True s = some (P, s')) (hP : P) (k : wp d 123 s' Q) : wp d 123 s Q := wp.pathm h6 am_m123 os True P s s' h hP k
