/-! an array of arrays -/
theorem am_outer (c : ClassId) (N h0 : Nat) : ∀ i : Nat, Jvm.Free.Multi.outerC c N h0 i = arrV c N (fun j => va_rf (if j < i then some (h0 + 1 + j) else none)) := by
  intro i
  induction i with
  | zero =>
    show ({ cls := c, slots := Array.replicate N .null, vm := .none } : Cell) = _
    rw [arrV_new]
    refine congrArg (arrV c N) (funext fun j => ?_)
    simp [va_rf]
  | succ i ih =>
    show (Jvm.Free.Multi.outerC c N h0 i).setSlot i (.ref (h0 + 1 + i)) = _
    rw [ih, arrV_store]
    refine congrArg (arrV c N) (funext fun j => ?_)
    by_cases e : j = i
    · subst e
      simp [updV, va_rf]
    · by_cases h : j < i
      · simp [updV, e, h, Nat.lt_succ_of_lt h]
      · simp [updV, e, h, show ¬ j < i + 1 by omega]
theorem am_rows_ne {α : Type} {f : Nat → Nat → α} {p n a : Nat} {g : Nat → α} (h : a < p ∨ p + n ≤ a) : am_rows f p n g a = f a := by
  unfold am_rows
  rw [if_neg (by omega)]
theorem am_rows_in {α : Type} {f : Nat → Nat → α} {p n a : Nat} {g : Nat → α} (h : p ≤ a ∧ a < p + n) : am_rows f p n g a = g := by
  unfold am_rows
  rw [if_pos h]
section AMU
variable {p : Program} {l : Launch} {e : Env} {R : Room} {s : State} {m : MethodId} {args : Array Value} {below : List Frame} {meth : Method} {c : Code} {H : Heap} {locs : List Loc} {cells slots : Nat} {Q : State → Prop}
variable {cc : ByteArray} {pc : Nat} {ls : Array Slot} {rest : List Value}
theorem am_mnaW (hexec : p.tables.exec = Jvm.exec) (hb : c.code = cc) {own : String} {index : Nat} (hown : s.vm.findClass own = some m.cls) (hclink : (Jvm.Cond.classLink own index "[[I").before args s = true) (hover : (Jvm.Cond.arrayOver (.array .int)).before args s = true) (harr : (Jvm.Cond.arrayClass .int).before args s = true)
    (hcells : cells + 9 ≤ R.cells) (hslots : slots + 56 ≤ R.slots) (hdg : decode cc pc = .ok (.multianewarray index 2, 4))
    (kk : ∀ (cA cy : ClassId) (H1 : Heap), s.vm.findClass "[[I" = some cA → s.vm.findClass "[I" = some cy → H1.size = H.size + 9 → (∀ q : Nat, q < H.size → H1[q]? = H[q]?) → H1[H.size]? = some (vp_cell cA (8, .inr (.inr (.inr (.inr (fun i => if i < 8 then some (H.size + 1 + i) else none)))))) → (∀ j, j < 8 → H1[H.size + 1 + j]? = some (vp_cell cy (6, .inl (fun _ => 0)))) →
      W p l e R s m args below meth c H1 locs (cells + 9) (slots + 56) Q (F0 m (pc + 4) ls (.ref H.size :: rest))) : W p l e R s m args below meth c H locs cells slots Q (F0 m pc ls (.int 6 :: .int 8 :: rest)) := by
  intro T hT Xs
  have e8 : (8 : Int32).toNatClampNeg = 8 := rfl
  have e6 : (6 : Int32).toNatClampNeg = 6 := rfl
  obtain ⟨vm₁, cA, comp, -, fA, fC, hO, -, X', step⟩ := Xs.multianewarray2F hexec hown hclink hover harr (g := F0 m pc ls (.int 6 :: .int 8 :: rest)) rfl (by rw [hb]; exact hdg) rfl (by decide) (by decide) (by decide) (by decide) (by decide) rfl rfl hcells hslots
  generalize hF : Jvm.Free.Multi.fill (T.setVm vm₁) cA comp (8 : Int32).toNatClampNeg (6 : Int32).toNatClampNeg (defaultValue .int) (8 : Int32).toNatClampNeg = F at X' step
  have hTh : (T.setVm vm₁).heap = H := hT
  obtain ⟨f1, f2, -, -⟩ := Jvm.Free.Multi.fill_facts (T.setVm vm₁) cA comp (8 : Int32).toNatClampNeg (6 : Int32).toNatClampNeg (defaultValue .int) (8 : Int32).toNatClampNeg
  rw [hF, hTh] at f1 f2
  have hold : ∀ x : Nat, x < H.size → F.heap[x]? = H[x]? := fun x hx => by
    have := Jvm.Free.Multi.fill_old (T.setVm vm₁) cA comp (8 : Int32).toNatClampNeg (6 : Int32).toNatClampNeg (defaultValue .int) (a := x) (by rw [hTh]; exact hx) (8 : Int32).toNatClampNeg
    rw [hF, hTh] at this
    exact this
  have hrow : ∀ j : Nat, j < 8 → F.heap[H.size + 1 + j]? = some (vp_cell comp (6, .inl (fun _ => 0))) := fun j hj => by
    have := Jvm.Free.Multi.fill_inner (T.setVm vm₁) cA comp (8 : Int32).toNatClampNeg (6 : Int32).toNatClampNeg (defaultValue .int) (8 : Int32).toNatClampNeg j hj
    rw [hF, hTh] at this
    rw [this, vp_cell_i]
    exact congrArg some (arrV_new comp 6 (.int 0))
  rw [am_outer] at f2
  obtain ⟨t, a1, b1⟩ := kk cA comp F.heap fA fC (by rw [f1, e8]) hold f2 hrow F rfl X'
  refine ⟨t, step t ?_, b1⟩
  have e : T.heap.size = H.size := by rw [hT]
  rw [e]
  exact a1
end AMU
section AMO
variable {p : Program} {l : Launch} {e : Env} {R : Room} {s : State} {m : MethodId} {args : Array Value} {below : List Frame} {meth : Method} {c : Code} {H : Heap} {locs : List Loc} {cells slots : Nat} {Q : State → Prop}
variable {D : va_G} {B0 : Nat} {sp : Nat → Nat} {aC : Nat → ClassId} {xs : Nat → Int32} {L : Nat} {r : AR} {d : Nat}
theorem am_o_multianewarray {i k : Nat} {nx a b z : Nat} {v : Value} {o pc : Nat} {lv : AL} {st : List Value} {w : AWd} {q : Option Prop} {t : ASt} {ls : Array Slot} (hrc : cells + t.2.2.2.1.1 ≤ R.cells + w.1.1) (hrs : slots + t.2.2.2.1.2.1 ≤ R.slots + w.1.2.1) (C : am_Cx p R s m args meth c D aC B0 sp xs L r d) (h6 : 5 ≤ d) (hc : am_chk r.2.1 r.2.2.2.2.1 pc (.multianewarray i k, nx, a, b, z, v) = true) (hx : ax (.multianewarray i k, nx, a, b, z, v) o (pc, lv, st, w) = some (q, t)) (hq : am_h q) (hW : am_WH D B0 sp aC xs L w H) (hS : va_S (fun q => B0 ≤ q) s.heap H locs) (hl : am_LH (am_ad B0 sp) ls r.2.2.1 lv) (kk : am_Kk p l e R s m args below meth c cells slots Q D B0 sp aC xs L r.2.2.1 w t) : W p l e R s m args below meth c H locs cells slots Q (F0 m pc ls (st.map (am_cv (am_ad B0 sp)))) := by
  obtain ⟨hx0, hb, hml, hr, hlk, hown, hts, hfr, hlo, hin, hK, hX, hbB, hB, hbs⟩ := C
  obtain ⟨hd, hn, hca⟩ := am_chk_inv hc
  have hn : nx = pc + 4 := hn
  subst hn
  match st, hx with
  | .int m9 :: .int n9 :: r2, hx =>
    cases hx
    obtain ⟨hlt, rfl, rfl, hs, hs2⟩ := hq
    have hsz := hW.2.2.1 (by omega)
    have hca := Bool.and_eq_true_iff.mp hca
    have hca1 := Bool.and_eq_true_iff.mp hca.1
    have hk2 : k = 2 := Nat.eq_of_beq_eq_true hca.2
    have ha9 : a = 99 := Nat.eq_of_beq_eq_true hca1.2
    subst hk2; subst ha9
    have hcl := am_lkN hca1.1
    have hrc : cells + (w.1.1 + 9) ≤ R.cells + w.1.1 := hrc
    have hrs : slots + (w.1.2.1 + 56) ≤ R.slots + w.1.2.1 := hrs
    refine am_mnaW hx0 hb hown (hts _ hcl) (over_moved (Vm.Alike.refl s.vm) hK.2.2.2.2.2) (hts _ am_w_aI) (by omega) (by omega) hd fun cA cy H1 fA fC z1 o2 f2 hrow => ?_
    have hcA : cA = aC 5 := Option.some.inj (fA.symm.trans (hK.1.2 3 _ rfl).2)
    have hcy : cy = aC 2 := Option.some.inj (fC.symm.trans (hK.1.2 0 _ rfl).2)
    subst hcA; subst hcy
    have hNP : w.1.1 + 9 ≤ am_NP := hlt
    have k0 := kk H1 locs ls (cells + 9) (slots + 56) ⟨?_, hlt, fun q => ?_, by have := hW.2.2.2.1; omega, hW.2.2.2.2.1, ?_⟩ (am_S_new hS (by omega) o2) hl (by show cells + 9 + w.1.1 = cells + (w.1.1 + 9); omega) (by show slots + 56 + w.1.2.1 = slots + (w.1.2.1 + 56); omega)
    · have e9 : am_cv (am_ad B0 sp) (.ref w.1.1) = .ref H.size := by show Value.ref (am_ad B0 sp w.1.1) = _; rw [am_adp (by omega), hsz]
      rw [← e9]
      exact k0
    · intro y q hk
      obtain ⟨g1, rfl⟩ := am_ws_inv hk
      have g1 : y < w.1.1 + 9 := g1
      by_cases h1 : y < w.1.1
      · have h9 := hW.1 y _ (am_ws_get h1)
        rw [am_E_eq (w := w) (w' := am_mk2 w) (am_rows_ne (Or.inl h1)) (am_rows_ne (Or.inl h1)) ((am_row_ne (by omega)).trans (am_rows_ne (Or.inl h1)))]
        refine h9.kept (o2 _ ?_)
        show am_ad B0 sp y < _
        rw [am_adp (by omega)]
        omega
      · by_cases h2 : y = w.1.1
        · subst h2
          rw [am_E_q (Or.inl (by rw [hs])), hs, am_adp (by omega), ← hsz]
          show H1[H.size]? = some (vp_cell _ _)
          rw [f2, vp_cell_q, vp_cell_q]
          congr 2
          funext j
          show _ = va_rf (Option.map _ (am_row _ _ _ _ _))
          rw [am_row_self]
          by_cases hj : j < 8
          · simp only [hj, if_true, Option.map_some]
            rw [am_adp (by omega), hsz]
            congr 2
            omega
          · simp [hj]
        · obtain ⟨j, rfl⟩ : ∃ j, y = w.1.1 + 1 + j := ⟨y - w.1.1 - 1, by omega⟩
          have hj : j < 8 := by omega
          have hsj := hs2 j hj
          rw [am_E_2 (by rw [hsj]), hsj, am_adp (by omega)]
          show H1[B0 + (w.1.1 + 1 + j)]? = some (vp_cell _ _)
          rw [show B0 + (w.1.1 + 1 + j) = H.size + 1 + j by omega, hrow j hj]
          show some (vp_cell (aC 2) (6, .inl (fun _ => 0))) = some (vp_cell (aC 2) (6, .inl (am_rows w.2.1 w.1.1 9 (fun _ => 0) (w.1.1 + 1 + j))))
          rw [am_rows_in (by omega)]
    · show H1.size = B0 + (w.1.1 + 9)
      omega
    · show am_rows w.2.1 w.1.1 9 _ 9999 = xs
      rw [am_rows_ne (Or.inr (by unfold am_NP at hNP; omega))]
      exact hW.2.2.2.2.2
end AMO
