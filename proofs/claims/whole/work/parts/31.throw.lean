/-! mj: what throws, what catches. -/
/-- the point that a walk has reached, taken as its method's beginning -/
theorem mj_restart {p : Program} {l : Launch} {e : Env} {R : Room} {s : State} {m : MethodId} {args : Array Value} {below : List Frame} {meth : Method} {c : Code} {T : State} {locs : List Loc} {cells slots : Nat}
    (X : Stand p l e R s m args below meth c T locs cells slots) (hc : cells ≤ R.cells) (hs : slots ≤ R.slots) :
    Stand p l e { R with cells := R.cells - cells, slots := R.slots - slots } ({ s with heap := T.heap, slotsUsed := T.slotsUsed } : State) m args below meth c T [] 0 0 := by
  have hb := X.book
  have hz := X.heapSize
  have hu := X.used
  refine ⟨X.admits, X.cas, X.clock, X.frames, ?_, X.hears, X.method, X.code, X.here, X.tail, X.warmed, X.limits, X.bytes, ?_⟩
  · have h := X.room
    simp only [State.hasRoom, Bool.and_eq_true, decide_eq_true_eq] at h ⊢
    obtain ⟨⟨⟨⟨h1, h2⟩, h3⟩, h4⟩, h5⟩ := h
    refine ⟨⟨⟨⟨h1, h2⟩, ?_⟩, ?_⟩, hb⟩
    · show T.heap.size + (R.cells - cells) ≤ _
      omega
    · show T.slotsUsed + (R.slots - slots) ≤ _
      omega
  · have h1 := X.same.1
    refine ⟨?_, Nat.le_refl _, Nat.le_refl _, ?_, ?_, fun a c0 h => ⟨c0, h, rfl, rfl, fun _ _ => rfl⟩⟩
    · exact h1
    · show T.slotsUsed = T.slotsUsed + ((T.heap.toList.drop T.heap.size).map (·.slots.size)).sum
      rw [show T.heap.toList.drop T.heap.size = [] from List.drop_eq_nil_of_le (by simp)]
      rfl
    · show ((T.heap.toList.drop T.heap.size).map (·.slots.size)).sum ≤ 0
      rw [show T.heap.toList.drop T.heap.size = [] from List.drop_eq_nil_of_le (by simp)]
      exact Nat.le_refl _
theorem mj_C.decl {Γ : mj_G} {U : State} (h : mj_C Γ U) {y : MethodName} (hw : Cond.declares y ∈ lw_tbl) (a : Array Value) : (Cond.declares y).before a U = true := by
  obtain ⟨a0, h0⟩ := h.1.1
  have h1 := Cond.before_shiftedFace (State.Shifted.of_warmed h.2.1) _ rfl (h0 _ hw)
  exact h1
theorem mj_C.cast {Γ : mj_G} {U : State} (h : mj_C Γ U) {x y : String} (hw : Cond.castable x y ∈ lw_tbl) (a : Array Value) : (Cond.castable x y).before a U = true := by
  obtain ⟨a0, h0⟩ := h.1.1
  have h1 := Cond.before_shiftedFace (State.Shifted.of_warmed h.2.1) _ rfl (h0 _ hw)
  exact h1
theorem mj_kept {Γ : mj_G} {U : State} (h : mj_C Γ U) {q : Nat} {cell : Cell} (hq : Γ.s.heap[q]? = some cell) : U.heap[q]? = some cell := by
  have hlt := (Array.getElem?_eq_some_iff.mp hq).1
  rw [h.2.2.2 q hlt]
  exact hq
theorem mj_C.lst {Γ : mj_G} {U : State} (h : mj_C Γ U) {o n d : String} (hw : Cond.laysStatic o n d ∈ lw_tbl) (a : Array Value) : (Cond.laysStatic o n d).before a U = true := by
  obtain ⟨a0, h0⟩ := h.1.1
  have h1 := Cond.before_shiftedFace (State.Shifted.of_warmed h.2.1) _ rfl (h0 _ hw)
  simp only [Cond.before, Cond.holds, Cond.value] at h1 ⊢
  have e1 : (Γ.s.setVm U.vm).vm = U.vm := rfl
  have e2 : (Γ.s.setVm U.vm).heap = Γ.s.heap := rfl
  have e3 : (Γ.s.setVm U.vm).fieldFound? o n d = U.fieldFound? o n d := rfl
  rw [e1, e2, e3] at h1
  revert h1
  cases U.vm.findClass o with
  | none => simp
  | some c =>
    cases U.fieldFound? o n d with
    | none => simp
    | some r =>
      obtain ⟨c', k, i, f⟩ := r
      simp only
      cases k.statics with
      | none => simp
      | some q =>
        simp only [Option.bind_some]
        cases hq : Γ.s.heap[q]? with
        | none => simp
        | some cell => rw [mj_kept h hq]; exact id
theorem mj_C.isr {Γ : mj_G} {U : State} (h : mj_C Γ U) {o n d : String} (hw : Cond.isRef (.static o n d) ∈ mj_nw) (a : Array Value) : (Cond.isRef (.static o n d)).before a U = true := by
  obtain ⟨a0, h0⟩ := h.1.2.2.2.2.1
  have h1 := Cond.before_shiftedFace (State.Shifted.of_warmed h.2.1) _ rfl (h0 _ hw)
  simp only [Cond.before, Cond.holds, Cond.value, Term.eval] at h1 ⊢
  have e2 : (Γ.s.setVm U.vm).heap = Γ.s.heap := rfl
  have e3 : (Γ.s.setVm U.vm).fieldNamed? o n d true = U.fieldNamed? o n d true := rfl
  rw [e2, e3] at h1
  revert h1
  cases U.fieldNamed? o n d true with
  | none => simp
  | some r =>
    obtain ⟨c', k, i⟩ := r
    simp only [Option.bind_eq_bind, Option.bind_some]
    cases k.statics with
    | none => simp
    | some q =>
      simp only [Option.bind_some]
      cases hq : Γ.s.heap[q]? with
      | none => simp
      | some cell => rw [mj_kept h hq]; exact id

/-- the words that go with the tables, or with what nobody writes -/
def mj_okw (w : Cond) : Bool := goodWord w || (match w with
  | .declares _ => true
  | .castable _ _ => true
  | .laysStatic _ _ _ => true
  | _ => false)
theorem mj_C.any {Γ : mj_G} {U : State} (h : mj_C Γ U) {w : Cond} (hw : w ∈ lw_tbl) (hk : mj_okw w = true) (a : Array Value) : w.before a U = true := by
  by_cases g : goodWord w = true
  · exact h.w a w (List.mem_filter.mpr ⟨hw, g⟩)
  · unfold mj_okw at hk
    rw [Bool.or_eq_true] at hk
    rcases hk with hk | hk
    · exact absurd hk g
    · cases w <;> first | exact h.decl hw a | exact h.cast hw a | exact h.lst hw a | (simp at hk; done)
abbrev mj_xc : Nat → Nat := fun x => match x with
  | 0 => 74
  | _ => 155
abbrev mj_xd : Nat → Nat := fun x => match x with
  | 0 => 72
  | _ => 153
abbrev mj_xu : List String := ["java/lang/RuntimeException", "java/lang/Exception"]
def mj_xi : Nat → List Nat := fun x => match x with
  | 0 => [68, 598, 607, 610, 613, 615, 599, 600, 82, 83, 601, 606, 611, 627, 588, 628, 590, 629, 592, 602, 603, 604, 605, 594, 617, 618, 619, 620, 579, 620, 621, 622, 623, 581, 623, 624, 625, 599, 583, 616, 577, 578, 585, 586, 587, 589, 591, 593]
  | _ => [68, 598, 607, 610, 613, 615, 599, 600, 82, 83, 601, 606, 611, 627, 588, 628, 590, 629, 592, 602, 603, 604, 605, 594, 664, 665, 666, 620, 579, 620, 621, 622, 623, 581, 623, 624, 625, 599, 583, 663, 655, 656, 657, 609, 658, 659, 660, 661]
def mj_xj : Nat → List Nat := fun x => match x with
  | 0 => [597, 596, 595]
  | _ => [597, 596, 662]
abbrev mj_xa (x : Nat) : List Cond := Bundle.ownAtoms0 "IsomerList" (mj_xc x) (mj_xn x) mj_xu
theorem mj_xa0 : ((mj_xa 0).take 48).map some = (mj_xi 0).map (lw_tbl[·]?) ∧ ((mj_xa 0).drop 50).map some = (mj_xj 0).map (lw_tbl[·]?) ∧ ((mj_xa 0).drop 48).take 2 = mj_nw ∧ ((mj_xa 0).take 48).all mj_okw = true ∧ ((mj_xa 0).drop 50).all mj_okw = true := ⟨by decide +kernel, by decide +kernel, by decide +kernel, by decide +kernel, by decide +kernel⟩
theorem mj_xa1 : ((mj_xa 1).take 48).map some = (mj_xi 1).map (lw_tbl[·]?) ∧ ((mj_xa 1).drop 50).map some = (mj_xj 1).map (lw_tbl[·]?) ∧ ((mj_xa 1).drop 48).take 2 = mj_nw ∧ ((mj_xa 1).take 48).all mj_okw = true ∧ ((mj_xa 1).drop 50).all mj_okw = true := ⟨by decide +kernel, by decide +kernel, by decide +kernel, by decide +kernel, by decide +kernel⟩
theorem mj_some_mem {L : List Cond} {I : List Nat} (h : L.map some = I.map (lw_tbl[·]?)) {w : Cond} (hw : w ∈ L) : w ∈ lw_tbl := by
  have h1 : some w ∈ L.map some := List.mem_map.mpr ⟨w, hw, rfl⟩
  rw [h] at h1
  obtain ⟨i, -, hi⟩ := List.mem_map.mp h1
  exact List.mem_of_getElem? hi
theorem mj_C.xa {Γ : mj_G} {U : State} (h : mj_C Γ U) {x : Nat} (hx : x = 0 ∨ x = 1) (a : Array Value) : ∀ w ∈ mj_xa x, w.before a U = true := by
  have H : ((mj_xa x).take 48).map some = (mj_xi x).map (lw_tbl[·]?) ∧ ((mj_xa x).drop 50).map some = (mj_xj x).map (lw_tbl[·]?) ∧ ((mj_xa x).drop 48).take 2 = mj_nw ∧ ((mj_xa x).take 48).all mj_okw = true ∧ ((mj_xa x).drop 50).all mj_okw = true := by
    rcases hx with rfl | rfl
    · exact mj_xa0
    · exact mj_xa1
  obtain ⟨h1, h2, h3, h4, h5⟩ := H
  intro w hw
  have e : mj_xa x = (mj_xa x).take 48 ++ (((mj_xa x).drop 48).take 2 ++ (mj_xa x).drop 50) := by
    have e1 : (mj_xa x).drop 50 = ((mj_xa x).drop 48).drop 2 := by rw [List.drop_drop]
    rw [e1, List.take_append_drop, List.take_append_drop]
  rw [e] at hw
  rcases List.mem_append.mp hw with hw | hw
  · exact h.any (mj_some_mem h1 hw) (List.all_eq_true.mp h4 w hw) a
  · rcases List.mem_append.mp hw with hw | hw
    · rw [h3] at hw
      have hw2 := hw
      simp only [mj_nw, List.mem_cons, List.not_mem_nil, or_false] at hw2
      rcases hw2 with rfl | rfl
      · exact h.isr hw a
      · exact h.isr hw a
    · exact h.any (mj_some_mem h2 hw) (List.all_eq_true.mp h5 w hw) a
theorem mj_xw : ∀ x, (x = 0 ∨ x = 1) → Cond.classLink "IsomerList" (mj_xd x) (mj_xn x) ∈ mj_tb ∧ Cond.initialized (mj_xn x) ∈ mj_tb := by
  intro x hx
  rcases hx with rfl | rfl
  · exact ⟨mj_mem 576 (by decide +kernel) (by decide +kernel), mj_mem 71 (by decide +kernel) (by decide +kernel)⟩
  · exact ⟨mj_mem 654 (by decide +kernel) (by decide +kernel), mj_mem 75 (by decide +kernel) (by decide +kernel)⟩
theorem mj_xfit : ∀ x, (x = 0 ∨ x = 1) → Bundle.fit (mj_xn x) = true ∧ ∀ n ∈ mj_xu, Bundle.fit n = true := by
  intro x hx
  rcases hx with rfl | rfl <;> exact ⟨by decide +kernel, by decide +kernel⟩
/-- what a state that ends a restarted walk has to do with the walk's own beginning -/
theorem mj_same2 {p : Program} {l : Launch} {e : Env} {R : Room} {s : State} {m : MethodId} {args : Array Value} {below : List Frame} {meth : Method} {c : Code} {T U : State} {locs : List Loc} {cells slots k n : Nat}
    (X : Stand p l e R s m args below meth c T locs cells slots) (h : ({ s with heap := T.heap, slotsUsed := T.slotsUsed } : State).sameButNew ({ U with vm := s.vm } : State) [] k n) :
    s.sameButNew ({ U with vm := s.vm } : State) locs (cells + k) (slots + n) := by
  have h1 := X.same.1
  obtain ⟨g1, g2, g3, g4, g5, g6⟩ := h
  have h2 : (T.setVm s.vm).sameButNew ({ U with vm := s.vm } : State) [] k n := by
    refine ⟨?_, g2, g3, g4, g5, g6⟩
    refine g1.trans ?_
    rw [h1]
    have key : ∀ (F G : List Frame) (h0 h1 : Heap) (u0 u1 : Nat), ({ ({ s with heap := h0, slotsUsed := u0 } : State).setFrames G with heap := h1, slotsUsed := u1 } : State) = { ({ s.setFrames F with heap := h0, slotsUsed := u0 } : State).setFrames G with heap := h1, slotsUsed := u1 } := by
      intro F G h0 h1 u0 u1
      have e1 : ({ ({ s.setFrames F with heap := h0, slotsUsed := u0 } : State).setFrames G with heap := h1, slotsUsed := u1 } : State) = { (s.setFrames F).setFrames G with heap := h1, slotsUsed := u1 } := rfl
      rw [e1, State.setFrames_setFrames]
      rfl
    exact key _ _ _ _ _ _
  have h3 := X.same.trans h2
  rw [List.append_nil] at h3
  exact h3
section MJ31
variable {Γ : mj_G} {d : Nat} {M : mj_M} {k n pc : Nat} {lv st : List Value} {S : mj_S} {P : mj_O → mj_S → Prop}
theorem mj_W.fresh {H H1 : Heap} (h : mj_W Γ S H) (hz : H1.size = H.size + 1) (hq : ∀ q : Nat, q < H.size → H1[q]? = H[q]?) : mj_W Γ (S.1, S.2.1, S.2.2 + 1) H1 := by
  obtain ⟨h1, h2, h3, h4, h5⟩ := h
  refine ⟨by rw [hz, h1]; rfl, Nat.le_succ_of_le h2, h3, fun i q hk => ?_, h5⟩
  have h6 := h4 i q hk
  exact h6.kept (hq _ h6.lt)
theorem mj_throw0 {x : Nat} (hx : x = 0 ∨ x = 1) (hd0 : decode M.cc pc = .ok (.new (mj_xd x), 3)) (hd3 : decode M.cc (pc + 3) = .ok (.dup, 1)) (hd4 : decode M.cc (pc + 4) = .ok (.invokespecial (mj_xc x), 3)) (hd7 : decode M.cc (pc + 7) = .ok (.athrow, 1))
    (hown : M.own = "IsomerList") (hht : mj_ht M = []) (hd : 6 ≤ d) (hk : 1 ≤ k) (hn : 6 ≤ n) (hst : Nat.ble (st.map fun v => v.category).sum 8 = true) (h : P (.inr x) (S.1, S.2.1, S.2.2 + 1)) : mj_Ok Γ d M k n pc lv st S P := by
  intro p e R s m args below meth c H locs cells slots ls hX hS hW hL hN T hT X
  obtain ⟨x1, x2, x3, x4, x5, x6, x7, x8, x9, x10, x11, x12, x13⟩ := hX
  have X0 := mj_restart X (by omega) (by omega)
  have hC' : mj_C Γ ({ s with heap := T.heap, slotsUsed := T.slotsUsed } : State) := x7.here hS hT (State.WarmedH.refl s)
  obtain ⟨w1, w2⟩ := mj_xw x hx
  have w3 := hC'.xa hx args
  have hsum : ((st.map (mj_v Γ)).map fun v => v.category).sum ≤ 8 := by
    have : (st.map (mj_v Γ)).map (fun v => v.category) = st.map (fun v => v.category) := by simp [mj_v_cat]
    rw [this]
    exact Nat.le_of_ble_eq_true hst
  have x6' : ({ s with heap := T.heap, slotsUsed := T.slotsUsed } : State).vm.findClass "IsomerList" = some m.cls := by rw [← hown]; exact x6
  obtain ⟨vm₁, cX, kX, hfX, hkX, -, -, X₁, st1⟩ := X0.newCold x1 (own := "IsomerList") (C := mj_xn x) (index := mj_xd x) (n := 6) x6' (hC'.w args _ w1) (w3 _ (by simp [Bundle.ownAtoms0])) (hC'.w args _ w2)
    (g := F0 m pc ls (st.map (mj_v Γ))) rfl (by rw [x2]; exact hd0) (by show 0 + 1 ≤ R.cells - cells; omega) (by show 0 + 6 ≤ R.slots - slots; omega)
  generalize hT1 : (T.setVm vm₁).pushCell { cls := cX, slots := kX.instanceTypes.map defaultValue, vm := .none } = T1 at X₁ st1
  have hcellA : T1.heap[T.heap.size]? = some (freshCell cX kX) := by rw [← hT1]; exact State.heap_pushCell_size _ _
  have htab : c.exceptionTable.isEmpty = true := by
    rw [hht] at x13
    have h1 := List.map_eq_nil_iff.mp x13
    rw [Array.isEmpty_iff]
    exact Array.toList_eq_nil_iff.mp h1
  obtain ⟨U, hsteps, hrun, hend, hWm, hsame, ce, hce, K⟩ := X₁.ctorThrow0 x1 (hC'.1.2.2.2.2.2 e X.admits) (own := "IsomerList") (cls := mj_xn x) (names := mj_xu) (ic := mj_xc x) x6' (mj_xfit x hx).1 (mj_xfit x hx).2
    w3 (fun y hy => by cases hy) hfX hkX hcellA (Nat.le_refl _)
    (g := F0 m (pc + 4) ls (.ref T.heap.size :: .ref T.heap.size :: st.map (mj_v Γ))) rfl (by show ls.size = _; rw [x5, hL.1, hN]) rfl rfl (rest := st.map (mj_v Γ)) rfl
    (by rw [x2]; exact hd4) (by rw [x2]; exact hd7) (covers_of_empty htab _) (by show 2 + 3 < R.frames; omega) (by show 2 * 0 + ((Value.ref T.heap.size :: st.map (mj_v Γ)).map fun v => v.category).sum + (13 * (2 + 1) + 41) ≤ R.locals; rw [List.map_cons, List.sum_cons]; show 2 * 0 + (1 + _) + _ ≤ _; omega) x4
  have hz : U.heap.size = T.heap.size + 1 := by
    have h1 := (Array.getElem?_eq_some_iff.mp hce).1
    have h2 : U.heap.size ≤ T.heap.size + (0 + 1) := hsame.2.2.1
    omega
  have hq : ∀ q : Nat, q < T.heap.size → U.heap[q]? = T.heap[q]? := by
    intro q hlt
    have h1 : T.heap[q]? = some T.heap[q] := Array.getElem?_eq_getElem hlt
    obtain ⟨c', h2, h3, h4, h5⟩ := hsame.2.2.2.2.2 q T.heap[q] h1
    have h6 : c'.slots = T.heap[q].slots := Array.ext' (by
      apply List.ext_getElem?
      intro i
      have := h5 i (by simp)
      simpa using this)
    rw [h1]
    refine h2.trans (congrArg some ?_)
    rw [h3, h6]
  refine ⟨U, ?_, .threw T.heap.size, hrun, hend, ⟨.inr x, (S.1, S.2.1, S.2.2 + 1), ⟨T.heap.size, ce, rfl, hce, fun k0 hk0 => ?_, ?_⟩, h, hW.fresh (by rw [hz, hT]) (fun q hlt => by rw [hq q (by rw [hT]; exact hlt), hT])⟩, ⟨?_, fun q h1 h2 => ?_⟩, hWm, locs, ?_, hS.2.2⟩
  · refine st1 _ ?_
    show Steps p.tables e below (T1.setTop (F0 m (pc + 3) ls (.ref T.heap.size :: st.map (mj_v Γ)))) _
    jvm_step X₁.here [X₁.here.top, x1, x2, hd3, Value.category]
    exact hsteps
  · rw [K.vm] at hk0
    cases hk0
  · have h1 := K.cls
    rw [hWm.alike.findClass]
    exact h1
  · rw [hz, hT]
    exact Nat.le_succ_of_le hS.1
  · have h3 := hS.1
    rw [hq q (by rw [hT]; omega), hT]
    exact hS.2.1 q h1 h2
  · exact (mj_same2 X hsame).weaken (fun y hy _ => hy) (by omega) (by omega)
end MJ31
/-- a search that goes through one row, whose class links: found, the tables warmer -/
theorem mj_caught {p : Program} {l : Launch} {e : Env} {R : Room} {s : State} {m : MethodId} {args : Array Value} {below : List Frame} {meth : Method} {c : Code} {T : State} {locs : List Loc} {cells slots : Nat}
    (X : Stand p l e R s m args below meth c T locs cells slots) (a : Addr) {g : JFrame} (hg : g.method = m) {own name : String} (hown : s.vm.findClass own = some m.cls) {h : ExceptionTableEntry}
    (ht : c.exceptionTable.toList = [h]) (hx : h.startPc ≤ g.pc ∧ g.pc < h.endPc) (h0 : h.catchType ≠ 0) (hlink : (Cond.classLink own h.catchType name).before args s = true) {cT : ClassId} {cell : Cell} (hcT : s.vm.findClass name = some cT)
    (hcell : T.heap[a]? = some cell) (hobj : ∀ k, cell.vm ≠ .statics k) (hfit : s.vm.assignable cell.cls cT = true) :
    ∃ vm', Stand p l e R s m args below meth c (T.setVm vm') locs cells slots ∧
      ∀ target, Steps p.tables e below ((T.setVm vm').setTop { g with pc := h.handlerPc, stack := [.ref a] }) target → Steps p.tables e below ((T.setTop g).pushFrame (.throwing a)) target := by
  subst hg
  have hpl : e.platform.magicAccessors = ({} : Platform).magicAccessors := by rw [X.admits.platform]
  obtain ⟨c', hc', hcl⟩ := Cond.classLink_spec hown hlink e.platform hpl
  have hcc : c' = cT := Option.some.inj (hc'.symm.trans hcT)
  subst hcc
  obtain ⟨dk, _, _, kt, hd, _, _, _, _, hkt, _, hopen⟩ := hcl.here
  have hlT := X.warmed.classLinks hcl
  obtain ⟨vm', hvm⟩ : ∃ vm', vm' = T.vm.noted g.method.cls h.catchType (.cls c') := ⟨_, rfl⟩
  have hW' : s.WarmedH vm' := by rw [hvm]; exact X.warmed.noted hd hopen (State.rightAt_cls hcl)
  have hal : T.vm.Alike vm' := by rw [hvm]; exact (Vm.Alike.refl T.vm).noted _ _ _
  have hfT : T.vm.assignable cell.cls c' = true := by rw [X.warmed.alike.assignable]; exact hfit
  have hfV : vm'.assignable cell.cls c' = true := by rw [hal.assignable]; exact hfT
  obtain ⟨kt1, hkt1, -⟩ := X.warmed.alike.2.2 _ _ hkt
  obtain ⟨kt2, hkt2, -⟩ := hal.2.2 _ _ hkt1
  obtain ⟨kc2, hkc2⟩ := Vm.classAt_of_assignable hfV ⟨kt2, hkt2⟩
  refine ⟨vm', X.noted hW', fun target hrest => ?_⟩
  obtain ⟨hgo, hin⟩ := At.throwing (g := g) X.here a
  refine Steps.head hgo hin ?_
  rw [stepThread_throwing (frames_entered X.here.top _)]
  have hm : ((T.setTop g).pushFrame (.throwing a)).vm.method? g.method = some meth := X.method'
  have hlT' : ((T.setTop g).pushFrame (.throwing a)).vm.ClassLinks e.platform g.method.cls h.catchType c' := hlT
  obtain ⟨ho, hot⟩ := (resolveClass_links e.toSetting hlT').op (op := VmOp.resolveClass g.method.cls h.catchType) rfl
  have hcell' : ((T.setTop g).pushFrame (.throwing a)).heap[a]? = some cell := hcell
  have hcov : (decide (h.startPc ≤ g.pc) && decide (g.pc < h.endPc)) = true := by simp [hx.1, hx.2]
  have hfind : ∀ (Q : Handler → Pre) (E : CtlPost) (d : Bool) (acts : List Action), wp (findHandler g a) Q E e d acts ((T.setTop g).pushFrame (.throwing a)) ↔ Q (.found h.handlerPc) d acts (((T.setTop g).pushFrame (.throwing a)).setVm vm') := by
    intro Q E d acts
    rw [W.findHandler_eq hm X.code, ht, hvm]
    rw [hvm] at hkt2 hkc2 hfV
    rw [Stand.throwing_vm] at ho hot
    simp [findHandler.go, Stand.throwing_vm, hcov, h0, ho, hot, hcell', hobj, hkt2, hkc2, hfV, VmOp.dirties, VmOp.acts]
  have hstep : (stepThrowing e ((T.setTop g).pushFrame (.throwing a)) a (.java g :: T.frames.tail)).1 = (((T.setTop g).pushFrame (.throwing a)).setVm vm').setFrames (.java { g with pc := h.handlerPc, stack := [.ref a] } :: T.frames.tail) := by
    simp only [stepThrowing, searchFrame, vmDo]
    generalize hr : Sem.go _ e false [] ((T.setTop g).pushFrame (.throwing a)) = res
    obtain ⟨as, rfl, -⟩ := Sem.eq_ok_of hr (a := Handler.found h.handlerPc) (s' := ((T.setTop g).pushFrame (.throwing a)).setVm vm') (acts' := []) (by simp [hfind])
    rfl
  rw [hstep]
  obtain ⟨g₀, hr⟩ := X.frames_eq
  have hr' : (T.setVm vm').frames = .java g₀ :: below := hr
  rw [State.setTop_of_frames _ hr'] at hrest
  have e1 : ((T.setTop g).pushFrame (.throwing a)).setVm vm' = ((T.setVm vm').setTop g).pushFrame (.throwing a) := rfl
  rw [X.tail, e1, State.pushFrame, State.setFrames_setFrames, State.setTop_of_frames _ hr', State.setFrames_setFrames]
  exact hrest
def mj_thr (Q : Nat → mj_S → Prop) : mj_O → mj_S → Prop := fun o S => match o with
  | .inl _ => False
  | .inr x => Q x S
/-- into a method by its contract, out of it however it ends -/
theorem mj_enter {p : Program} {l : Launch} {e : Env} {R : Room} {s : State} {m : MethodId} {args : Array Value} {below : List Frame} {meth : Method} {c : Code} {T : State} {locs : List Loc} {cells slots : Nat}
    (X : Stand p l e R s m args below meth c T locs cells slots) {g : JFrame} (hg : g.method = m) (hsize : g.locals.size = c.maxLocals) {ig : Instr} {len : Nat} (hdg : decode c.code g.pc = .ok (ig, len))
    {y : MethodName} {ws : List Cond} {rm : Room} {Pc : Array Value → State → Prop} {Qc : Array Value → State → Outcome → State → Prop} (hM : MetFree l y (headSpec ws rm) Pc (fun _ _ _ _ _ => True) Qc) {mk : MethodId} {a : Array Value}
    (hn : T.methodNamed? y = some mk) {methY : Method} {cY : Code} (hmY : T.vm.method? mk = some methY) (hcY : methY.code = some cY) (hini : (Cond.initialized y.cls).before a T = true) (hws : ∀ w ∈ ws, w.before a T = true) (hP : Pc a (T.calling g mk a))
    (hf : rm.frames + 1 ≤ R.frames) (hlo : 2 * g.monitorRoom + (g.stack.map fun v => v.category).sum + (cY.maxLocals + 11) + rm.locals ≤ R.locals) (h4 : cells + rm.cells ≤ R.cells) (h5 : slots + rm.slots ≤ R.slots) :
    ∃ o t, Steps p.tables e below (doInvoke e (T.setTop g) [] mk a).1 t ∧ Ended t (.java g :: below) o ∧ Qc a (T.calling g mk a) o t := by
  obtain ⟨kY, hkY, -⟩ := className_of_methodNamed hn
  have hinitY : kY.init = .initialized := Cond.initialized_spec (findClass_of_methodNamed hn) hkY hini
  have h : At T g.method c below := by rw [hg]; exact X.here
  have happ : (headSpec ws rm).appliesLoose y e.platform (T.calling g mk a) = true :=
    Spec.appliesLoose_calling (g := g) h hdg hn hkY hinitY (X.room_calling (g := g) (R' := rm) hsize hmY hcY hf hlo h4 h5) (atoms_intro hws)
  have hfr : (T.setTop g).frames = [.java g] ++ below := by rw [State.frames_setTop' g h.top, X.tail]; rfl
  obtain ⟨o, t, hs, -, hend, hq⟩ := Steps.callFree hM p X.admits X.cas X.clock (acts := []) hfr happ hP trivial
  rw [hfr] at hend
  exact ⟨o, t, hs, hend, hq⟩
section MJ31b
variable {Γ : mj_G} {d d1 : Nat} {M M1 : mj_M} {k n pc mc ms : Nat} {lv st : List Value} {S : mj_S} {P : mj_O → mj_S → Prop} {Q : Nat → mj_S → Prop} {y : MethodName}
theorem mj_runT {idx a ci : Nat} {q : vw_C} {fs As : List Value} (hd : decode M.cc pc = .ok (.invokevirtual idx, 3)) (hM : mj_Met Γ d1 y M1 (.ref a :: As) S mc ms (mj_thr Q)) (hcw : mj_cw y M1 As.length) (hw : Cond.methodLink M.own idx y ∈ mj_tb ∧ Cond.instanceMethod y ∈ mj_tb ∧ Cond.selects y.cls y y ∈ mj_tb)
    (hq : mj_cl[ci]? = some q) (hqc : q.1 = y.cls) (ha : a < S.2.1) (he : S.1 a = .inr (ci, fs)) (hd1 : d1 < d) (hst : Nat.ble (st.map fun v => v.category).sum 8 = true) (hmc : mc ≤ k) (hms : ms ≤ n)
    {p : Program} {e : Env} {R : Room} {s : State} {m : MethodId} {args : Array Value} {below : List Frame} {meth : Method} {c : Code} {H : Heap} {locs : List Loc} {cells slots : Nat} {ls : Array Slot}
    (hX : mj_X Γ d M k n p R s m meth c cells slots) (hS : va_S (mj_A Γ) s.heap H locs) (hW : mj_W Γ S H) (hL : mj_L Γ ls lv) (hN : lv.length = M.nL) {T : State} (hT : T.heap = H) (X : Stand p Γ.l e R s m args below meth c T locs cells slots) :
    ∃ (x : Nat) (b : Addr) (T' : State) (L : List Loc) (cell : Cell) (S' : mj_S), Stand p Γ.l e R s m args below meth c T' (locs ++ L) (cells + mc) (slots + ms) ∧ va_S (mj_A Γ) s.heap T'.heap (locs ++ L) ∧
      T'.heap[b]? = some cell ∧ (∀ k, cell.vm ≠ .statics k) ∧ s.vm.findClass (mj_xn x) = some cell.cls ∧ Q x S' ∧ mj_W Γ S' T'.heap ∧
      Steps p.tables e below (T.setTop (F0 m pc ls ((As.reverse ++ .ref a :: st).map (mj_v Γ)))) ((T'.setTop (F0 m pc ls (st.map (mj_v Γ)))).pushFrame (.throwing b)) := by
  obtain ⟨x1, x2, x3, x4, x5, x6, x7, x8, x9, x10, x11, x12⟩ := hX
  obtain ⟨g1, g2, ⟨g3, g3', g3''⟩, g4⟩ := mj_cw_spec hcw
  obtain ⟨w1, w2, w3⟩ := hw
  have hts := x7.w args
  have he' : (mj_ws Γ S)[a]? = some (mj_ad Γ a, .inr (ci, fs.map (mj_v Γ))) := by rw [mj_ws_at ha, he]; rfl
  have hrec := va_recv x7.K hW.2.2.2.1 hq he'
  rw [hqc] at hrec
  obtain ⟨cellB, hcB, hoB, hclB⟩ := hrec
  obtain ⟨mk, methM, hnamed, hmethM, hstM, habM⟩ := Cond.instanceMethod_spec (hts _ w2)
  obtain ⟨methM', cM, hmethM', hcM, hbM, hlM, -, -, -, hsigM⟩ := Cond.code_spec hnamed (hts _ g1)
  cases hmethM.symm.trans hmethM'
  obtain ⟨c2, r2, m2, q1, q2, q3, q4, kP, hkP, hkPi⟩ := Cond.selects_spec (hts _ w3)
  cases hclB.symm.trans q1
  cases (State.methodFound?_of_named hnamed ⟨g3, g3'⟩).symm.trans q2
  cases hnamed.symm.trans q3
  have hselP : selectMethod e.platform s.vm cellB.cls mk = .method mk := by rw [Launch.admits_selectMethod X.admits]; exact q4
  have hlen : (As.map (mj_v Γ)).length = methM.sig.parameters.length := by
    rw [List.length_map]
    rw [hsigM] at g3''
    exact (Option.some.inj g3'').symm
  obtain ⟨vm₁, X₁, hstep₁⟩ := X.invokevirtual x1 x6 (hts _ w1) hnamed hmethM hstM hkP hkPi ⟨g3, g3'⟩ (a := mj_ad Γ a) (cell := cellB) (by rw [hT]; exact hcB)
    (fun z h => by rw [h] at hoB; cases hoB) hselP hmethM habM hkP hkPi (g := F0 m pc ls ((As.reverse ++ .ref a :: st).map (mj_v Γ))) rfl (argsL := As.map (mj_v Γ)) (rest := st.map (mj_v Γ)) hlen (by simp [mj_v]) (by rw [x2]; exact hd)
  have hwm := X₁.warmed
  have hC1 : mj_C Γ (T.setVm vm₁) := x7.here hS hT hwm
  have hsum : ((st.map (mj_v Γ)).map fun v => v.category).sum ≤ 8 := by
    have : (st.map (mj_v Γ)).map (fun v => v.category) = st.map (fun v => v.category) := by simp [mj_v_cat]
    rw [this]
    exact Nat.le_of_ble_eq_true hst
  obtain ⟨o, t, hs, hend, hR⟩ := mj_enter X₁ (g := F0 m pc ls (st.map (mj_v Γ))) rfl (by show ls.size = _; rw [x5, hL.1, hN]) (by rw [x2]; exact hd) hM (mk := mk) (a := (Value.ref (mj_ad Γ a) :: As.map (mj_v Γ)).toArray) (X₁.named hnamed)
    (methY := methM) (cY := cM) (by have := hwm.alike.method? mk; exact this.trans hmethM) hcM (hC1.w _ _ g2) (fun w hw => by rw [List.mem_singleton.mp hw]; exact hC1.w _ _ g1)
    ⟨rfl, hC1, by show mj_W Γ S T.heap; rw [hT]; exact hW⟩ (by show d1 + 1 ≤ _; omega) (by show 2 * 0 + ((st.map (mj_v Γ)).map fun v => v.category).sum + (cM.maxLocals + 11) + 40 * d1 ≤ _; rw [hlM]; omega) (by show cells + mc ≤ _; omega) (by show slots + ms ≤ _; omega)
  obtain ⟨⟨out, S', c1, c2, c3⟩, ⟨f1, f2⟩, hWm, L, hsame, hLA⟩ := hR
  cases out with
  | inl v => exact c2.elim
  | inr x =>
    obtain ⟨b, cell, rfl, hc1, hc2, hc3⟩ := c1
    obtain ⟨T', X', hW2, hB, ht⟩ := X₁.outOfThrown (g := F0 m pc ls (st.map (mj_v Γ))) rfl hend hWm hsame
    have hh : t.heap = T'.heap := by rw [ht]; exact Stand.throwing_heap _ _ _
    have f1 : T.heap.size ≤ t.heap.size := f1
    have f2 : ∀ q : Nat, q < T.heap.size → ¬ mj_A Γ q → t.heap[q]? = T.heap[q]? := f2
    rw [hT] at f1 f2
    refine ⟨x, b, T', L, cell, S', X', ⟨by rw [← hh]; exact Nat.le_trans hS.1 f1, fun q h1 h2 => ?_, fun q hq => ?_⟩, by rw [← hh]; exact hc1, hc2, ?_, c2, by rw [← hh]; exact c3, hstep₁ _ fun acts => ?_⟩
    · rw [← hh, f2 q (Nat.lt_of_lt_of_le h1 hS.1) h2]
      exact hS.2.1 q h1 h2
    · rcases List.mem_append.mp hq with h | h
      · exact hS.2.2 q h
      · exact hLA q h
    · have hvt : t.vm = T'.vm := by rw [ht]; exact Stand.throwing_vm _ _ _
      rw [hvt, X'.warmed.alike.findClass] at hc3
      exact hc3
    · rw [doInvoke_state, ← ht]
      exact hs
theorem mj_callVT {idx a ci : Nat} {q : vw_C} {fs As : List Value} (hd : decode M.cc pc = .ok (.invokevirtual idx, 3)) (hM : mj_Met Γ d1 y M1 (.ref a :: As) S mc ms (mj_thr Q)) (hcw : mj_cw y M1 As.length) (hw : Cond.methodLink M.own idx y ∈ mj_tb ∧ Cond.instanceMethod y ∈ mj_tb ∧ Cond.selects y.cls y y ∈ mj_tb)
    (hq : mj_cl[ci]? = some q) (hqc : q.1 = y.cls) (ha : a < S.2.1) (he : S.1 a = .inr (ci, fs)) (hd1 : d1 < d) (hst : Nat.ble (st.map fun v => v.category).sum 8 = true) (hht : mj_ht M = []) (hmc : mc ≤ k) (hms : ms ≤ n)
    (hk : ∀ (x : Nat) (S' : mj_S), Q x S' → P (.inr x) S') : mj_Ok Γ d M k n pc lv (As.reverse ++ .ref a :: st) S P := by
  intro p e R s m args below meth c H locs cells slots ls hX hS hW hL hN T hT X
  obtain ⟨x, b, T', L, cell, S', X', hS', hc1, hc2, hc3, hQ, hW', hst'⟩ := mj_runT hd hM hcw hw hq hqc ha he hd1 hst hmc hms hX hS hW hL hN hT X
  obtain ⟨x1, x2, x3, x4, x5, x6, x7, x8, x9, x10, x11, x12, x13⟩ := hX
  have htab : c.exceptionTable.isEmpty = true := by
    rw [hht] at x13
    rw [Array.isEmpty_iff]
    exact Array.toList_eq_nil_iff.mp (List.map_eq_nil_iff.mp x13)
  obtain ⟨hwalk, hrun, hend, hWm, hsame⟩ := X'.leaveThrown b (g := F0 m pc ls (st.map (mj_v Γ))) rfl rfl rfl (covers_of_empty htab _) x4
  refine ⟨_, hst'.trans hwalk, .threw b, hrun, hend, ⟨.inr x, S', ⟨b, cell, rfl, hc1, hc2, ?_⟩, hk x S' hQ, hW'⟩, ⟨hS'.1, hS'.2.1⟩, hWm, _, hsame.weaken (fun y hy _ => hy) (by omega) (by omega), hS'.2.2⟩
  show T'.vm.findClass _ = _
  rw [X'.warmed.alike.findClass]
  exact hc3
/-- a handler's beginning: some reference alone on the stack -/
def mj_OkX (Γ : mj_G) (d : Nat) (M : mj_M) (k n pc : Nat) (lv : List Value) (S : mj_S) (P : mj_O → mj_S → Prop) : Prop :=
  ∀ (p : Program) (e : Env) (R : Room) (s : State) (m : MethodId) (args : Array Value) (below : List Frame) (meth : Method) (c : Code) (H : Heap) (locs : List Loc) (cells slots : Nat) (ls : Array Slot) (b : Addr),
    mj_X Γ d M k n p R s m meth c cells slots → va_S (mj_A Γ) s.heap H locs → mj_W Γ S H → mj_L Γ ls lv → lv.length = M.nL →
    W p Γ.l e R s m args below meth c H locs cells slots (mj_Q Γ below s (cells + k) (slots + n) P) (F0 m pc ls [.ref b])
theorem mj_L.junk {Γ : mj_G} {ls' : Array Slot} {lv : List Value} {i : Nat} {v : Value} (hc : mj_c1 lv = true)
    (h : lv_has ls' lv.length ((i, v) :: (mj_al Γ lv).filter (fun q => !(q.1 == i) && !(q.1 + 1 == i && q.2.category == 2)))) : mj_L Γ ls' (lv.set i (.retAddr 0)) := by
  refine ⟨by rw [h.1, List.length_set], h.2.1, fun j w hj hw => ?_⟩
  by_cases e : i = j
  · subst e
    have hl : i < lv.length := by
      have := (List.getElem?_eq_some_iff.mp hj).1
      rwa [List.length_set] at this
    rw [List.getElem?_set_self hl] at hj
    cases hj
    cases hw
  · rw [List.getElem?_set_ne e] at hj
    refine h.2.2 (j, mj_v Γ w) (List.mem_cons_of_mem _ (List.mem_filter.mpr ⟨mj_al_mem hj hw, ?_⟩))
    have h1 : w.category = 1 := by
      have := List.all_eq_true.mp hc w (List.mem_of_getElem? hj)
      simpa using this
    have e' : ¬ j = i := fun q => e q.symm
    simp [e', mj_v_cat, h1]
theorem mj_OkX.ast {i : Nat} {lv' : List Value} (hd : decode M.cc pc = .ok (.astore i, 2)) (hc : mj_c1 lv = true) (hi : Nat.blt i lv.length = true) (hl : lv.set i (.retAddr 0) = lv') (h : mj_Ok Γ d M k n (pc + 2) lv' [] S P) : mj_OkX Γ d M k n pc lv S P := by
  subst hl
  intro p e R s m args below meth c H locs cells slots ls b hX hS hW hL hN
  exact lv_astore hX.1 hX.2.1 hd hL.has (Nat.le_of_ble_eq_true hi) rfl (fun ls' hl' => h p e R s m args below meth c H locs cells slots ls' hX hS hW (mj_L.junk hc hl') (by rw [List.length_set]; exact hN))
theorem mj_OkX.ast_n {i : Fin 4} {lv' : List Value} (hd : decode M.cc pc = .ok (.astore_n i, 1)) (hc : mj_c1 lv = true) (hi : Nat.blt (i : Nat) lv.length = true) (hl : lv.set (i : Nat) (.retAddr 0) = lv') (h : mj_Ok Γ d M k n (pc + 1) lv' [] S P) : mj_OkX Γ d M k n pc lv S P := by
  subst hl
  intro p e R s m args below meth c H locs cells slots ls b hX hS hW hL hN
  exact lv_astore_n hX.1 hX.2.1 hd rfl hL.has (Nat.le_of_ble_eq_true hi) rfl (fun ls' hl' => h p e R s m args below meth c H locs cells slots ls' hX hS hW (mj_L.junk hc hl') (by rw [List.length_set]; exact hN))
theorem mj_callVC {idx a ci x0 h1 h2 h3 h4 : Nat} {q : vw_C} {fs As : List Value} (hd : decode M.cc pc = .ok (.invokevirtual idx, 3)) (hM : mj_Met Γ d1 y M1 (.ref a :: As) S mc ms (mj_thr Q)) (hcw : mj_cw y M1 As.length) (hw : Cond.methodLink M.own idx y ∈ mj_tb ∧ Cond.instanceMethod y ∈ mj_tb ∧ Cond.selects y.cls y y ∈ mj_tb)
    (hq : mj_cl[ci]? = some q) (hqc : q.1 = y.cls) (ha : a < S.2.1) (he : S.1 a = .inr (ci, fs)) (hd1 : d1 < d) (hst : Nat.ble (st.map fun v => v.category).sum 8 = true) (hht : mj_ht M = [(h1, h2, h3, h4)]) (hcov : h1 ≤ pc ∧ pc < h2 ∧ h4 ≠ 0) (hlk : Cond.classLink M.own h4 (mj_xn x0) ∈ mj_tb) (hcast : Cond.castable (mj_xn x0) (mj_xn x0) ∈ lw_tbl)
    (hk : ∀ (x : Nat) (S' : mj_S), Q x S' → x = x0 ∧ mj_OkX Γ d M k n h3 lv S' P) : mj_Ok Γ d M (k + mc) (n + ms) pc lv (As.reverse ++ .ref a :: st) S P := by
  intro p e R s m args below meth c H locs cells slots ls hX hS hW hL hN T hT X
  obtain ⟨x, b, T', L, cell, S', X', hS', hc1, hc2, hc3, hQ, hW', hst'⟩ := mj_runT hd hM hcw hw hq hqc ha he hd1 hst (Nat.le_add_left _ _) (Nat.le_add_left _ _) hX hS hW hL hN hT X
  obtain ⟨x1, x2, x3, x4, x5, x6, x7, x8, x9, x10, x11, x12, x13⟩ := hX
  obtain ⟨rfl, hgo⟩ := hk x S' hQ
  obtain ⟨h, ht, hhh⟩ : ∃ h, c.exceptionTable.toList = [h] ∧ (h.startPc, h.endPc, h.handlerPc, h.catchType) = (h1, h2, h3, h4) := by
    rw [hht] at x13
    cases ht : c.exceptionTable.toList with
    | nil => rw [ht] at x13; cases x13
    | cons h r =>
      rw [ht] at x13
      cases r with
      | nil => exact ⟨h, rfl, by simpa using x13⟩
      | cons _ _ => simp at x13
  simp only [Prod.mk.injEq] at hhh
  obtain ⟨e1, e2, e3, e4⟩ := hhh
  obtain ⟨c3, c4, hcc3, hcc4, hasg⟩ := Cond.castable_spec (x7.cast hcast args)
  cases hcc3.symm.trans hcc4
  have hcl : cell.cls = c3 := Option.some.inj (hc3.symm.trans hcc3)
  obtain ⟨vm', X2, hcat⟩ := mj_caught X' b (g := F0 m pc ls (st.map (mj_v Γ))) rfl x6 ht (by rw [e1, e2]; exact ⟨hcov.1, hcov.2.1⟩) (by rw [e4]; exact hcov.2.2) (by rw [e4]; exact x7.w args _ hlk) hcc3 hc1 hc2 (by rw [hcl]; exact hasg)
  obtain ⟨t2, a1, b1⟩ := hgo p e R s m args below meth c T'.heap (locs ++ L) (cells + mc) (slots + ms) ls b ⟨x1, x2, x3, x4, x5, x6, x7, x8, x9, by omega, by omega, x12, x13⟩ hS' hW' hL hN (T'.setVm vm') rfl X2
  rw [e3] at hcat
  rw [show cells + mc + k = cells + (k + mc) by omega, show slots + ms + n = slots + (n + ms) by omega] at b1
  exact ⟨t2, hst'.trans (hcat t2 a1), b1⟩
end MJ31b
/-- a contract of a method that has handlers -/
def mj_MetH (Γ : mj_G) (d : Nat) (y : MethodName) (M : mj_M) (av : List Value) (S : mj_S) (mc ms : Nat) (P : mj_O → mj_S → Prop) : Prop :=
  MetFree Γ.l y (headSpec [Cond.codeWith y M.cc M.nL M.ret (mj_ht M)] { frames := d, cells := mc, slots := ms, locals := 40 * d })
    (fun v U => v = (av.map (mj_v Γ)).toArray ∧ mj_C Γ U ∧ mj_W Γ S U.heap) (fun _ _ _ _ _ => True) (fun _ st o t => mj_R Γ st mc ms P o t)
theorem mj_MetH.of {Γ : mj_G} {d : Nat} {y : MethodName} {M : mj_M} {av lv : List Value} {S : mj_S} {mc ms : Nat} {P : mj_O → mj_S → Prop} (hy : plainName y.cls = true) (hM : y.cls = M.own ∧ y.name = M.name) (hc : mj_c1 av = true) (hlv : lv = av ++ List.replicate (M.nL - av.length) (.retAddr 0)) (hle : Nat.ble av.length M.nL = true)
    (h : mj_Ok Γ d M mc ms 0 lv [] S P) : mj_MetH Γ d y M av S mc ms P := by
  refine MetFree.of_bodyS (code := M.cc) (maxLocals := M.nL) (ret := M.ret) hy ?_ ?_
  · intro args s m h hn
    obtain ⟨m', meth, c, h0, h1, h2, h3, h4, -, h5, h6, -⟩ := Cond.codeWith_spec (atoms_spec (ws := [Cond.codeWith y M.cc M.nL M.ret (mj_ht M)]) h _ List.mem_cons_self)
    cases hn.symm.trans h0
    exact ⟨meth, c, h1, h2, h3, h4, h5, h6⟩
  · intro p e s m args below meth c s₁ B hml hP _
    obtain ⟨rfl, hC, hW⟩ := hP
    have hh0 : s₁.heap = s.heap := by rw [B.state]; rfl
    have htab : c.exceptionTable.toList.map (fun h => (h.startPc, h.endPc, h.handlerPc, h.catchType)) = mj_ht M := by
      obtain ⟨m', meth', c', h0, h1, h2, -, -, h3, -⟩ := Cond.codeWith_spec (atoms_spec (ws := [Cond.codeWith y M.cc M.nL M.ret (mj_ht M)]) B.pre _ List.mem_cons_self)
      cases B.named.symm.trans h0
      cases B.method.symm.trans h1
      cases (Stand.of_body B).code.symm.trans h2
      exact h3
    have hown : s.vm.findClass M.own = some m.cls := by rw [← hM.1]; exact findClass_of_methodNamed B.named
    have hnm : meth.name = M.name := ((name_of_methodNamed B.named B.method).1).trans hM.2
    have hle' : av.length ≤ M.nL := Nat.le_of_ble_eq_true hle
    have hc1 := mj_c1_map (Γ := Γ) hc
    have hsl : (lg_sl (av.map (mj_v Γ))).length = av.length := by rw [mj_sl_len _ hc1, List.length_map]
    have hl := lv_entry (av.map (mj_v Γ)) (n := M.nL) (by rw [hsl]; exact hle')
    have hlen : lv.length = M.nL := by rw [hlv, List.length_append, List.length_replicate]; omega
    have hL : mj_L Γ ((lg_sl (av.map (mj_v Γ)) ++ List.replicate (M.nL - (lg_sl (av.map (mj_v Γ))).length) Slot.unset).toArray) lv := by
      refine ⟨hl.1.trans hlen.symm, hl.2.1, fun i v hi hj => ?_⟩
      rw [hlv] at hi
      by_cases hlt : i < av.length
      · rw [List.getElem?_append_left hlt] at hi
        have h3 : (av.map (mj_v Γ))[i]? = some (mj_v Γ v) := by rw [List.getElem?_map, hi]; rfl
        have h4 := mj_args_mem _ 0 i _ hc1 h3
        rw [Nat.zero_add] at h4
        exact hl.2.2 _ h4
      · rw [List.getElem?_append_right (by omega)] at hi
        have h5 := List.mem_of_getElem? hi
        rw [(List.mem_replicate.mp h5).2] at hj
        exact absurd hj (by decide)
    have w := h p e (headSpec [Cond.codeWith y M.cc M.nL M.ret (mj_ht M)] { frames := d, cells := mc, slots := ms, locals := 40 * d }).room s m (av.map (mj_v Γ)).toArray below meth c s.heap [] 0 0 _
      ⟨B.exec, B.bytes, B.returns, B.notSynchronized, hml, hown, hC, Nat.le_refl _, Nat.le_refl _, by simp [headSpec], by simp [headSpec], hnm, htab⟩ va_S.rf hW hL hlen
    rw [Nat.zero_add, Nat.zero_add] at w
    have w2 : W p Γ.l e (headSpec [Cond.codeWith y M.cc M.nL M.ret (mj_ht M)] { frames := d, cells := mc, slots := ms, locals := 40 * d }).room s m (av.map (mj_v Γ)).toArray below meth c s.heap [] 0 0 (mj_Q Γ below s mc ms P) (entryFrame m (av.map (mj_v Γ)).toArray M.nL) := by
      rw [lg_entry_eq]
      exact w
    obtain ⟨t, a1, o, b1, b2, b3⟩ := w2 s₁ hh0 (Stand.of_body B)
    exact ⟨t, o, a1, b1, b2, b3⟩
/-- what a call of a method with handlers asks of the tables -/
def mj_cwH (y : MethodName) (M : mj_M) (n : Nat) : Prop :=
  Cond.codeWith y M.cc M.nL M.ret (mj_ht M) ∈ mj_tb ∧ Cond.initialized y.cls ∈ mj_tb ∧ (y.cls ≠ "java/lang/invoke/MethodHandle" ∧ y.cls ≠ "java/lang/invoke/VarHandle" ∧ (parseMethodDescriptor y.desc).map (fun d => d.parameters.length) = some n) ∧ M.nL ≤ 21
section MJ31c
variable {Γ : mj_G} {d d1 : Nat} {M M1 : mj_M} {k n pc mc ms : Nat} {lv st : List Value} {S : mj_S} {P : mj_O → mj_S → Prop} {Q : Option Value → mj_S → Prop} {y : MethodName}
theorem mj_callSH {idx : Nat} {As : List Value} (hd : decode M.cc pc = .ok (.invokestatic idx, 3)) (hM : mj_MetH Γ d1 y M1 As S mc ms (mj_ret Q)) (hcw : mj_cwH y M1 As.length) (hw : Cond.methodLink M.own idx y ∈ mj_tb ∧ Cond.static y ∈ mj_tb)
    (hd1 : d1 < d) (hst : Nat.ble (st.map fun v => v.category).sum 8 = true)
    (hk : ∀ (v : Option Value) (S' : mj_S), Q v S' → mj_Ok Γ d M k n (pc + 3) lv (v.toList ++ st) S' P) : mj_Ok Γ d M (k + mc) (n + ms) pc lv (As.reverse ++ st) S P := by
  intro p e R s m args below meth c H locs cells slots ls hX hS hW hL hN T hT X
  obtain ⟨x1, x2, x3, x4, x5, x6, x7, x8, x9, x10, x11, x12⟩ := hX
  obtain ⟨g1, g2, ⟨g3, g3', g3''⟩, g4⟩ := hcw
  obtain ⟨w1, w2⟩ := hw
  have hts := x7.w args
  obtain ⟨mk, methM, cM, hnamed, hmethM, hcM, hbM, hlM, -, -, -, hsigM⟩ := Cond.codeWith_spec (hts _ g1)
  have hstatic : methM.isStatic = true := Cond.static_spec hnamed hmethM (hts _ w2)
  obtain ⟨kP, hkP, -⟩ := className_of_methodNamed hnamed
  have hinitP : kP.init = .initialized := Cond.initialized_spec (findClass_of_methodNamed hnamed) hkP (hts _ g2)
  have hlen : (As.map (mj_v Γ)).length = methM.sig.parameters.length := by
    rw [List.length_map]
    rw [hsigM] at g3''
    exact (Option.some.inj g3'').symm
  obtain ⟨vm₁, X₁, hstep₁⟩ := X.invokestatic x1 x6 (hts _ w1) hnamed hmethM hstatic hkP hinitP ⟨g3, g3'⟩ (g := F0 m pc ls ((As.reverse ++ st).map (mj_v Γ))) rfl (argsL := As.map (mj_v Γ)) (rest := st.map (mj_v Γ)) hlen (by simp) (by rw [x2]; exact hd)
  have hwm := X₁.warmed
  have hC1 : mj_C Γ (T.setVm vm₁) := x7.here hS hT hwm
  have hsum : ((st.map (mj_v Γ)).map fun v => v.category).sum ≤ 8 := by
    have : (st.map (mj_v Γ)).map (fun v => v.category) = st.map (fun v => v.category) := by simp [mj_v_cat]
    rw [this]
    exact Nat.le_of_ble_eq_true hst
  have hdg : decode c.code (F0 m pc ls (st.map (mj_v Γ))).pc = .ok (.invokestatic idx, 3) := by rw [x2]; exact hd
  obtain ⟨o, t, hs, hend, hR⟩ := mj_enter X₁ (g := F0 m pc ls (st.map (mj_v Γ))) rfl (by show ls.size = _; rw [x5, hL.1, hN]) hdg hM (mk := mk) (a := (As.map (mj_v Γ)).toArray) (X₁.named hnamed)
    (methY := methM) (cY := cM) (by have := hwm.alike.method? mk; exact this.trans hmethM) hcM (hC1.w _ _ g2) (fun w hw => by rw [List.mem_singleton.mp hw]; exact hC1.w _ _ g1)
    ⟨rfl, hC1, by show mj_W Γ S T.heap; rw [hT]; exact hW⟩ (by show d1 + 1 ≤ _; omega) (by show 2 * 0 + ((st.map (mj_v Γ)).map fun v => v.category).sum + (cM.maxLocals + 11) + 40 * d1 ≤ _; rw [hlM]; omega) (by show cells + mc ≤ _; omega) (by show slots + ms ≤ _; omega)
  obtain ⟨⟨out, S', c1, c2, c3⟩, ⟨f1, f2⟩, hWm, L, hsame, hLA⟩ := hR
  cases out with
  | inr x => exact c2.elim
  | inl v =>
    have c1 : o = .returned (v.map (mj_v Γ)) := c1
    subst c1
    obtain ⟨T', X', hW2, hB, ht⟩ := X₁.outOf (g := F0 m pc ls (st.map (mj_v Γ))) rfl hdg hend hWm hsame
    have hh : t.heap = T'.heap := by rw [ht]; rfl
    have f1 : T.heap.size ≤ t.heap.size := f1
    have f2 : ∀ q : Nat, q < T.heap.size → ¬ mj_A Γ q → t.heap[q]? = T.heap[q]? := f2
    rw [hT] at f1 f2
    have hS' : va_S (mj_A Γ) s.heap T'.heap (locs ++ L) := by
      refine ⟨by rw [← hh]; exact Nat.le_trans hS.1 f1, fun q h1 h2 => ?_, fun q hq => ?_⟩
      · rw [← hh, f2 q (Nat.lt_of_lt_of_le h1 hS.1) h2]
        exact hS.2.1 q h1 h2
      · rcases List.mem_append.mp hq with h | h
        · exact hS.2.2 q h
        · exact hLA q h
    obtain ⟨t2, a1, b1⟩ := hk v S' c2 p e R s m args below meth c T'.heap (locs ++ L) (cells + mc) (slots + ms) ls ⟨x1, x2, x3, x4, x5, x6, x7, x8, x9, by omega, by omega, x12⟩ hS' (by rw [← hh]; exact c3) hL hN T' rfl X'
    rw [show cells + mc + k = cells + (k + mc) by omega, show slots + ms + n = slots + (n + ms) by omega] at b1
    refine ⟨t2, hstep₁ _ (fun acts => ?_), b1⟩
    rw [doInvoke_state]
    refine hs.trans ?_
    rw [ht]
    have e3 : (v.map (mj_v Γ)).toList ++ st.map (mj_v Γ) = (v.toList ++ st).map (mj_v Γ) := by cases v <;> simp
    show Steps p.tables e below (T'.setTop (F0 m (pc + 3) ls ((v.map (mj_v Γ)).toList ++ st.map (mj_v Γ)))) t2
    rw [e3]
    exact a1
end MJ31c
