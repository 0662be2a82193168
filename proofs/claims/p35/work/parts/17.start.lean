/-! THE CLAIM OUT OF ONE WALK OF THE LAW'S BODY. Your part is whole_start (and what it stands on); all else here is the same for every law, but numbers. -/
def R_law : String := "MouthFramesLaw"
def lw_P (b : Addr) (xs : List Int32) (args : Array Value) (s : State) : Prop := args = #[.ref b] ∧ s.IntsAt b xs ∧ xs.length ≤ 260 ∧ (Jvm.Cond.and given_1 narrow_1).before args s = true
def lw_Q (_ : Array Value) (s : State) (o : Outcome) (t : State) : Prop := o = .returned (some (.int 1)) ∧ Framed s o t [] 600000 7302250
def lw_Z (below : List Frame) (a : Array Value) (s : State) : State → Prop := fun t => ∃ o, t.status = .running ∧ Ended t below o ∧ lw_Q a s o t
/-- the law's own end, with 1 on the stack, nothing written that was there before, its room as the claim has it -/
theorem lw_ret {p : Program} {l : Launch} {e : Env} {s : State} {m : MethodId} {below : List Frame} {meth : Method} {c : Code} {b : Nat} (hx : p.tables.exec = Jvm.exec) (hb : c.code = code) (hr : meth.sig.returnType = ret) (hlocks : meth.locks = false) {pc : Nat} {H : Heap} {ls : Array Slot} (hdg : decode code pc = .ok (.ireturn, 1)) : W p l e room_1 s m #[Value.ref b] below meth c H [] 600000 7302250 (lw_Z below #[Value.ref b] s) (F0 m pc ls [.int 1]) := by
  intro T hT X
  obtain ⟨fs, hret, hrun, hended, hW, hframe⟩ := X.leave (v := some (.int 1)) (hlocks := hlocks) (fun h => by rw [hr] at h; cases h)
  have hmeth' : T.vm.method? m = some meth := X.method'
  refine ⟨T.setFrames fs, ?_, .returned (some (.int 1)), hrun, hended, rfl, ⟨_, rfl⟩, hW, hframe⟩
  jvm_step X.here [X.here.top, hx, hb, hdg, hmeth', hr, ret, narrow_b1]
  (try refine ⟨rfl, ?_⟩); (try refine ⟨rfl, ?_⟩)
  first | (intro acts; rw [hret _ acts rfl rfl rfl]) | rw [hret _ _ rfl rfl rfl]
  exact Steps.refl _
/-- what holds at the law's entry: the machine, the code, the tables' words (any of lw_tbl by 'hts w (by decide +kernel)'), the script of L ints xs at the cell b, what the Statement gives of the start (any of its parts by flat_of_before) -/
def lw_At (p : Program) (s : State) (m : MethodId) (meth : Method) (c : Code) (b L : Nat) (xs : Nat → Int32) : Prop :=
  p.tables.exec = Jvm.exec ∧ c.code = code ∧ meth.sig.returnType = ret ∧ c.maxLocals = 7 ∧ s.vm.findClass R_law = some m.cls ∧ (∀ w ∈ lw_tbl, w.before #[Value.ref b] s = true) ∧ va_X b L xs s s.heap ∧ b < s.heap.size ∧ meth.locks = false ∧ (Jvm.Cond.and given_1 narrow_1).before #[Value.ref b] s = true
/-! the law's entry -/
/-- what is to be shown of the abstract machine -/
def am_w0 (L : Nat) (xs : Nat → Int32) : AWd := ((0, 0, L), (fun p k => if p = 9999 then xs k else 0), (fun _ _ => 0), (fun _ _ => none))
def am_Goal : Prop := ∀ (L : Nat) (xs : Nat → Int32), L ≤ 260 → ∃ w1 : AWd, w1.1.1 ≤ 600000 ∧ w1.1.2.1 ≤ 7302250 ∧ Runs 14 123 (0, am_args 7 [.ref 9999], [], am_w0 L xs) (some (.int 1), w1)
def am_tm (i : Nat) : Term := .string "MouthFrames$Tape" (match i with | 0 => 74 | 1 => 80 | 2 => 82 | _ => 84)
theorem am_getS : ∀ j q, lkS[j]? = some q → j < 4 ∧ (am_RO q.1 = "MouthFrames$Tape") ∧ am_tm j = .string "MouthFrames$Tape" q.2.1 := by
  intro j q h
  have hj : j < 4 := (List.getElem?_eq_some_iff.mp h).1
  match j, hj, h with
  | 0, _, h => cases h; exact ⟨by decide, rfl, rfl⟩
  | 1, _, h => cases h; exact ⟨by decide, rfl, rfl⟩
  | 2, _, h => cases h; exact ⟨by decide, rfl, rfl⟩
  | 3, _, h => cases h; exact ⟨by decide, rfl, rfl⟩
theorem vk_S_congr {N : Nat} {len : List Nat} {byt : List (List Int32)} {adK adV adK' adV' : Nat → Nat} {A : Nat → Prop} {U : State} {H : Heap} (h : vk_S N len byt adK adV A U H) (e1 : ∀ i, i < N → adK' i = adK i) (e2 : ∀ i, i < N → adV' i = adV i) : vk_S N len byt adK' adV' A U H :=
  ⟨fun i hi => by rw [e1 i hi, e2 i hi]; exact h.1 i hi, fun i j hi hj e => h.2 i j hi hj (by rw [← e1 i hi, ← e1 j hj]; exact e)⟩
section AMG
variable {s : State} {args : Array Value}
theorem am_gv (h : (Jvm.Cond.and given_1 narrow_1).before args s = true) {w : Jvm.Cond} (hw : w ∈ flatC (Jvm.Cond.and given_1 narrow_1)) : w.before args s = true := flat_of_before _ h w hw
theorem am_strs (h : (Jvm.Cond.and given_1 narrow_1).before args s = true) {A : Nat → Prop} (hA : ∀ a : Nat, a < s.heap.size → ¬ A a) : ∃ adK adV : Nat → Nat, vk_S 4 am_sL am_sB adK adV A s s.heap ∧ ∀ i : Nat, i < 4 → (am_tm i).eval args s none [] s = some (.ref (adK i)) := by
  refine vk_Sof (tm := am_tm) (len := am_sL) (byt := am_sB) (fun i hi => ?_) (fun i hi => ?_) (fun i hi => ?_) (fun i hi => ?_) (fun i hi => ?_) (fun i hi j hj => ?_) (fun i j hi hj hij => ?_) hA
  · match i, hi with
    | 0, _ => exact by decide
    | 1, _ => exact by decide
    | 2, _ => exact by decide
    | 3, _ => exact by decide
    | n + 4, hi => omega
  · match i, hi with
    | 0, _ => exact am_gv h (by decide +kernel)
    | 1, _ => exact am_gv h (by decide +kernel)
    | 2, _ => exact am_gv h (by decide +kernel)
    | 3, _ => exact am_gv h (by decide +kernel)
    | n + 4, hi => omega
  · match i, hi with
    | 0, _ => exact am_gv h (by decide +kernel)
    | 1, _ => exact am_gv h (by decide +kernel)
    | 2, _ => exact am_gv h (by decide +kernel)
    | 3, _ => exact am_gv h (by decide +kernel)
    | n + 4, hi => omega
  · match i, hi with
    | 0, _ => exact am_gv h (by decide +kernel)
    | 1, _ => exact am_gv h (by decide +kernel)
    | 2, _ => exact am_gv h (by decide +kernel)
    | 3, _ => exact am_gv h (by decide +kernel)
    | n + 4, hi => omega
  · match i, hi with
    | 0, _ => exact am_gv h (by decide +kernel)
    | 1, _ => exact am_gv h (by decide +kernel)
    | 2, _ => exact am_gv h (by decide +kernel)
    | 3, _ => exact am_gv h (by decide +kernel)
    | n + 4, hi => omega
  · match i, hi, hj with
    | 0, _, hj =>
      have hj : j < 3 := hj
      match j, hj with
      | 0, _ => exact am_gv h (by decide +kernel)
      | 1, _ => exact am_gv h (by decide +kernel)
      | 2, _ => exact am_gv h (by decide +kernel)
      | n + 3, hj => omega
    | 1, _, hj =>
      have hj : j < 4 := hj
      match j, hj with
      | 0, _ => exact am_gv h (by decide +kernel)
      | 1, _ => exact am_gv h (by decide +kernel)
      | 2, _ => exact am_gv h (by decide +kernel)
      | 3, _ => exact am_gv h (by decide +kernel)
      | n + 4, hj => omega
    | 2, _, hj =>
      have hj : j < 5 := hj
      match j, hj with
      | 0, _ => exact am_gv h (by decide +kernel)
      | 1, _ => exact am_gv h (by decide +kernel)
      | 2, _ => exact am_gv h (by decide +kernel)
      | 3, _ => exact am_gv h (by decide +kernel)
      | 4, _ => exact am_gv h (by decide +kernel)
      | n + 5, hj => omega
    | 3, _, hj =>
      have hj : j < 6 := hj
      match j, hj with
      | 0, _ => exact am_gv h (by decide +kernel)
      | 1, _ => exact am_gv h (by decide +kernel)
      | 2, _ => exact am_gv h (by decide +kernel)
      | 3, _ => exact am_gv h (by decide +kernel)
      | 4, _ => exact am_gv h (by decide +kernel)
      | 5, _ => exact am_gv h (by decide +kernel)
      | n + 6, hj => omega
    | n + 4, hi, _ => omega
  · match i, j, hi, hj, hij with
    | 0, 0, _, _, hij => exact absurd rfl hij
    | 0, 1, _, _, _ => exact Or.inl (am_gv h (by decide +kernel)) 
    | 0, 2, _, _, _ => exact Or.inl (am_gv h (by decide +kernel)) 
    | 0, 3, _, _, _ => exact Or.inl (am_gv h (by decide +kernel)) 
    | 1, 0, _, _, _ => exact Or.inr (am_gv h (by decide +kernel)) 
    | 1, 1, _, _, hij => exact absurd rfl hij
    | 1, 2, _, _, _ => exact Or.inl (am_gv h (by decide +kernel)) 
    | 1, 3, _, _, _ => exact Or.inl (am_gv h (by decide +kernel)) 
    | 2, 0, _, _, _ => exact Or.inr (am_gv h (by decide +kernel)) 
    | 2, 1, _, _, _ => exact Or.inr (am_gv h (by decide +kernel)) 
    | 2, 2, _, _, hij => exact absurd rfl hij
    | 2, 3, _, _, _ => exact Or.inl (am_gv h (by decide +kernel)) 
    | 3, 0, _, _, _ => exact Or.inr (am_gv h (by decide +kernel)) 
    | 3, 1, _, _, _ => exact Or.inr (am_gv h (by decide +kernel)) 
    | 3, 2, _, _, _ => exact Or.inr (am_gv h (by decide +kernel)) 
    | 3, 3, _, _, hij => exact absurd rfl hij
    | n + 4, _, hi, _, _ => omega
    | 0, n + 4, _, hj, _ => omega
    | 1, n + 4, _, hj, _ => omega
    | 2, n + 4, _, hj, _ => omega
    | 3, n + 4, _, hj, _ => omega
theorem am_arrK {ty : FieldType} (hn : ∀ C, ty ≠ .object C) (h : (Jvm.Cond.arrayClass ty).before args s = true) : ∃ c : ClassId, ArrOfT s c ty ∧ va_RA s c ty := by
  obtain ⟨c, k, comp, h1, h2, h3⟩ := Cond.arrayClass_spec h
  refine ⟨c, fun N z => ⟨(fun k h => by cases h), k, h2, comp, h3⟩, ?_⟩
  cases ty with
  | object C => exact absurd rfl (hn C)
  | _ => exact h1
theorem am_arrO {C : String} (h : (Jvm.Cond.arrayOver (.object C)).before args s = true) : ∃ c : ClassId, ArrOfT s c (.object C) ∧ va_RA s c (.object C) := by
  obtain ⟨comp, c, k, h1, h2, h3, h4, h5⟩ := Cond.arrayOver_spec h
  exact ⟨c, fun N z => ⟨(fun k h => by cases h), k, h3, comp, h4⟩, k, comp, h3, h4, h1, h5⟩
theorem am_arrA {ty : FieldType} (h : (Jvm.Cond.arrayOver (.array ty)).before args s = true) : ∃ c : ClassId, ArrOfT s c (.array ty) ∧ va_RA s c (.array ty) := by
  obtain ⟨comp, c, k, h1, h3, h4, h5⟩ := Cond.arrayOver_specA h
  exact ⟨c, fun N z => ⟨(fun k h => by cases h), k, h3, comp, h4⟩, h5⟩
theorem am_tysK (hts : ∀ w ∈ lw_tbl, w.before args s = true) : ∃ aC : Nat → ClassId, ∀ (k : Nat) (q : ClassId × FieldType), (am_tys aC)[k]? = some q → ArrOfT s q.1 q.2 ∧ va_RA s q.1 q.2 := by
  obtain ⟨c_int, h_int⟩ := am_arrK (ty := .int) (fun C h => by cases h) (hts _ (List.mem_of_getElem? (i := 122) (by decide +kernel)))
  obtain ⟨c_bool, h_bool⟩ := am_arrK (ty := .boolean) (fun C h => by cases h) (hts _ (List.mem_of_getElem? (i := 207) (by decide +kernel)))
  obtain ⟨c_long, h_long⟩ := am_arrK (ty := .long) (fun C h => by cases h) (hts _ (List.mem_of_getElem? (i := 206) (by decide +kernel)))
  obtain ⟨c_ii, h_ii⟩ := am_arrA (ty := .int) (hts _ (List.mem_of_getElem? (i := 55) (by decide +kernel)))
  obtain ⟨c_tk, h_tk⟩ := am_arrO (C := RX4) (hts _ (List.mem_of_getElem? (i := 130) (by decide +kernel)))
  obtain ⟨c_sh, h_sh⟩ := am_arrO (C := RX3) (hts _ (List.mem_of_getElem? (i := 253) (by decide +kernel)))
  refine ⟨fun k => match k with | 2 => c_int | 3 => c_bool | 4 => c_long | 5 => c_ii | 6 => c_tk | _ => c_sh, fun k q hq => ?_⟩
  match k, hq with
  | 0, hq => cases hq; exact h_int
  | 1, hq => cases hq; exact h_bool
  | 2, hq => cases hq; exact h_long
  | 3, hq => cases hq; exact h_ii
  | 4, hq => cases hq; exact h_tk
  | 5, hq => cases hq; exact h_sh
  | k + 6, hq => cases hq
theorem am_clsK (hts : ∀ w ∈ am_TT, w.before args s = true) : ∃ D : va_G, ∀ (k : Nat) (q : vw_C), vwCl[k]? = some q → u_Kn s q.1 q.2.1 q.2.2 (D.1 k) (D.2 k) := by
  have h0 : ∀ a : Nat, ∃ q : ClassId × (Nat → Nat), a < 7 → u_Kn s (am_RO a) (am_T a) (am_N a) q.1 q.2 := by
    intro a
    by_cases ha : a < 7
    · obtain ⟨c, f, h⟩ := u_known (C := am_RO a) (T := am_T a) (N := am_N a) (n := am_N a) hts (am_lay a ha) (hts _ (am_w_n a ha).1)
      exact ⟨(c, f), fun _ => h⟩
    · exact ⟨(0, fun _ => 0), fun h => absurd h ha⟩
  obtain ⟨f, hf⟩ := Classical.axiomOfChoice h0
  refine ⟨(fun k => (f k).1, fun k => (f k).2), fun k q hq => ?_⟩
  have hk : k < 7 := (List.getElem?_eq_some_iff.mp hq).1
  rw [am_vw k hk] at hq
  cases hq
  exact hf k hk
end AMG
theorem am_w0_P {D : va_G} {ad : Nat → Nat} {aC : Nat → ClassId} {L : Nat} {xs : Nat → Int32} {H : Heap} : va_P D vwCl (am_ws ad aC (am_w0 L xs)) H := fun k q h => by
  have := (am_ws_inv h).1
  exact absurd this (Nat.not_lt_zero _)
set_option maxHeartbeats 4000000 in
theorem am_start (l : Launch) (hSV : ∀ B0 sp, am_SV l B0 sp) (hgoal : am_Goal) {p : Program} {e : Env} {s : State} {m : MethodId} {below : List Frame} {meth : Method} {c : Code} {b L : Nat} {xs : Nat → Int32} (hL : L ≤ 260) (C0 : lw_At p s m meth c b L xs) : W p l e room_1 s m #[Value.ref b] below meth c s.heap [] 0 0 (lw_Z below #[Value.ref b] s) (entryFrame m ([Value.ref b] : List Value).toArray 7) := by
  obtain ⟨hx, hb, hr, hml, hown, hts, hX, hbl, hlocks, hgv⟩ := id C0
  have htt : ∀ w ∈ am_TT, w.before #[Value.ref b] s = true := fun w hw => hts w (List.mem_filter.mp hw).1
  have hA : ∀ a : Nat, a < s.heap.size → ¬ (fun q : Nat => s.heap.size ≤ q) a := fun a h => Nat.not_le.mpr h
  obtain ⟨adK, adV, hS4, hev⟩ := am_strs hgv hA
  obtain ⟨aC, haC⟩ := am_tysK hts
  obtain ⟨D, hD⟩ := am_clsK htt
  obtain ⟨sp, hsp1, hsp2, hsp3⟩ : ∃ sp : Nat → Nat, sp 9999 = b ∧ (∀ j, j < 4 → sp (9990 + j) = adK j) ∧ (∀ j, j < 4 → sp (9980 + j) = adV j) := by
    refine ⟨fun q => if q = 9999 then b else if 9990 ≤ q then adK (q - 9990) else adV (q - 9980), if_pos rfl, fun j hj => ?_, fun j hj => ?_⟩
    · show (if 9990 + j = 9999 then b else if 9990 ≤ 9990 + j then adK (9990 + j - 9990) else adV (9990 + j - 9980)) = adK j
      rw [if_neg (by omega), if_pos (by omega), show 9990 + j - 9990 = j by omega]
    · show (if 9980 + j = 9999 then b else if 9990 ≤ 9980 + j then adK (9980 + j - 9990) else adV (9980 + j - 9980)) = adV j
      rw [if_neg (by omega), if_neg (by omega), show 9980 + j - 9980 = j by omega]
  have hG : am_Gs s.heap.size sp s s.heap := by
    refine ⟨vk_S_congr hS4 hsp2 hsp3, va_Zof (hts _ (List.mem_of_getElem? (i := 565) (by decide +kernel))) (hts _ (List.mem_of_getElem? (i := 35) (by decide +kernel))) (va_eqi (am_gv hgv (by decide +kernel))) hA, va_Zqof (hts _ (List.mem_of_getElem? (i := 581) (by decide +kernel))) (hts _ (List.mem_of_getElem? (i := 37) (by decide +kernel))) (am_gv hgv (by decide +kernel)) hA⟩
  have hK : am_K D aC sp s := by
    refine ⟨⟨hD, haC⟩, fun q hq hk => ?_, fun j q hj => ?_, va_AO.of (hts _ (List.mem_of_getElem? (i := 130) (by decide +kernel))), va_AO.of (hts _ (List.mem_of_getElem? (i := 253) (by decide +kernel))), over_moved (Vm.Alike.refl s.vm) (hts _ (List.mem_of_getElem? (i := 55) (by decide +kernel)))⟩
    · have h := hts _ (List.mem_of_getElem? (lkM_ok q hq))
      unfold am_lw at h ⊢
      rcases hk with hk | hk <;> rw [hk] at h ⊢ <;> exact va_Nw.of rfl h
    · obtain ⟨hj4, hro, htm⟩ := am_getS j q hj
      have h := hts _ (List.mem_of_getElem? (lkS_ok q (List.mem_of_getElem? hj)))
      have he := hev j hj4
      rw [htm] at he
      rw [hro] at h ⊢
      rw [hsp2 j hj4]
      exact ⟨h, he⟩
  obtain ⟨w1, hw1, hw2, n, hrun⟩ := hgoal L xs hL
  have snd := am_sound (l := l) (D := D) (aC := aC) (B0 := s.heap.size) (sp := sp) (xs := xs) (L := L) (hSV _ _) n 14 123 _ _ hrun
  have hrc : ∃ rc : AR, am_all[123]? = some rc ∧ rc.1.name = "law" ∧ rc.2.1 = code ∧ rc.2.2.1 = 7 ∧ rc.2.2.2.1 = ret ∧ rc.2.2.2.2.1 = 8 := ⟨_, rfl, rfl, rfl, rfl, rfl, rfl⟩
  obtain ⟨rc, hrc, hnm, hcode, hml4, hret, hown8⟩ := hrc
  have hbB : sp 9999 < s.heap.size := by rw [hsp1]; exact hbl
  have hXs : va_X (sp 9999) L xs s s.heap := by rw [hsp1]; exact hX
  have C : am_Cx p room_1 s m #[Value.ref b] meth c D aC s.heap.size sp xs L rc 14 := ⟨hx, by rw [hcode]; exact hb, by rw [hml4]; exact hml, by rw [hret]; exact hr, hlocks, by rw [hown8]; exact hown, htt, Nat.le_refl _, Nat.le_of_ble_eq_true rfl, fun h => by rw [hnm] at h; exact absurd h (by decide), hK, hXs, hbB, Nat.le_refl _, hbB⟩
  have hl := am_LH.start (ad := am_ad s.heap.size sp) (As := [.ref 9999]) (n := 7) (by decide)
  have e9 : [Value.ref 9999].map (am_cv (am_ad s.heap.size sp)) = [Value.ref b] := by
    show [Value.ref (am_ad s.heap.size sp 9999)] = _
    rw [show am_ad s.heap.size sp 9999 = sp 9999 from if_neg (by decide), hsp1]
  rw [e9] at hl
  rw [lg_entry_eq]
  refine snd rc hrc p e room_1 s m _ below meth c _ w1.1.1 w1.1.2.1 C hG hw1 hw2 ?_ s.heap [] 0 0 _ ⟨am_w0_P, Nat.zero_le _, fun _ => rfl, Nat.le_refl _, rfl, ?_⟩ va_S.rf (by rw [hml4]; exact hl) (Nat.add_comm _ _) (Nat.add_comm _ _)
  · intro ins nx a b9 z v t H locs ls hc hfin hW hS
    obtain ⟨hd, -, -⟩ := am_chk_inv hc
    obtain ⟨pc, lv, st, w9⟩ := t
    rw [hcode] at hd
    unfold am_fin at hfin
    split at hfin
    · obtain ⟨x, hst, -, hrr⟩ := hfin
      cases hrr
      have hst : st = [.int 1] := hst
      subst hst
      refine W.widen hw1 hw2 ?_
      intro T hT X
      exact lw_ret hx hb hr hlocks hd T hT (Stand.forget (locs := []) (extra := locs) X (fun q h => hS.2.2 q h))
    · obtain ⟨x, -, -, hrr⟩ := hfin
      cases hrr
    · obtain ⟨-, -, hrr⟩ := hfin
      cases hrr
    · exact hfin.elim
  · funext k
    show (if (9999 : Nat) = 9999 then xs k else 0) = xs k
    rw [if_pos rfl]
