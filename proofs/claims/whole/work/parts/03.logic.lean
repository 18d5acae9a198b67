/-! mj, part 03: abstract states, and what the machine's states have to do with them. An abstract reference is a number: below mj_st a cell made since the law's start (its place behind the start's last cell), from mj_st on one of four arrays that nobody writes (three static tables, the script). -/
abbrev mj_E : Type := (Nat × vp_A) ⊕ (Nat × List Value)
/-- cells by their ids; how many are known; how many there are -/
abbrev mj_S : Type := (Nat → mj_E) × Nat × Nat
abbrev mj_G : Type := Launch × State × va_G × (Nat → ClassId) × (Nat → Nat) × (Nat → vp_A)
abbrev mj_G.l (Γ : mj_G) : Launch := Γ.1
abbrev mj_G.s (Γ : mj_G) : State := Γ.2.1
abbrev mj_G.D (Γ : mj_G) : va_G := Γ.2.2.1
abbrev mj_G.cA (Γ : mj_G) : Nat → ClassId := Γ.2.2.2.1
abbrev mj_G.ra (Γ : mj_G) : Nat → Nat := Γ.2.2.2.2.1
abbrev mj_G.ro (Γ : mj_G) : Nat → vp_A := Γ.2.2.2.2.2
/-- code, own class, locals, what it returns, its name -/
abbrev mj_M : Type := ByteArray × String × Nat × Option FieldType × String
abbrev mj_M.cc (M : mj_M) : ByteArray := M.1
abbrev mj_M.own (M : mj_M) : String := M.2.1
abbrev mj_M.nL (M : mj_M) : Nat := M.2.2.1
abbrev mj_M.ret (M : mj_M) : Option FieldType := M.2.2.2.1
abbrev mj_M.name (M : mj_M) : String := M.2.2.2.2
/-- how a method ends: it returns, or throws an exception of the class with that number -/
abbrev mj_O : Type := Option Value ⊕ Nat
def mj_st : Nat := 1000000
def mj_ad (Γ : mj_G) (k : Nat) : Nat := if k < mj_st then Γ.s.heap.size + k else Γ.ra (k - mj_st)
def mj_v (Γ : mj_G) : Value → Value := fun v => match v with
  | .ref k => .ref (mj_ad Γ k)
  | v => v
def mj_e (Γ : mj_G) : mj_E → va_E := fun e => match e with
  | .inl a => .inl (Γ.cA a.1, a.2)
  | .inr o => .inr (o.1, o.2.map (mj_v Γ))
def mj_ws (Γ : mj_G) (S : mj_S) : va_W := (List.range S.2.1).map fun k => (mj_ad Γ k, mj_e Γ (S.1 k))
def mj_A (Γ : mj_G) : Nat → Prop := fun q => Γ.s.heap.size ≤ q
def mj_at : Nat → FieldType := fun t => match t with
  | 0 => .int
  | 1 => .char
  | 2 => .boolean
  | _ => .long
def mj_rt : Nat → Nat := fun k => match k with
  | 0 => 0
  | 1 => 1
  | 2 => 1
  | _ => 0
def mj_rn : Nat → String × String := fun k => match k with
  | 0 => ("VALENCES", "[I")
  | 1 => ("FIRST_LETTERS", "[C")
  | _ => ("SECOND_LETTERS", "[C")
def mj_xn : Nat → String := fun k => match k with
  | 0 => "java/lang/IllegalStateException"
  | _ => "java/lang/IndexOutOfBoundsException"
abbrev mj_tys (Γ : mj_G) : List (ClassId × FieldType) := [(Γ.cA 0, .int), (Γ.cA 1, .char), (Γ.cA 2, .boolean), (Γ.cA 3, .long)]
/-- what an int array holds -/
def mj_ai (x : vp_A) : Nat → Int32 := match x.2 with
  | .inl f => f
  | _ => fun _ => 0
/-- words of the start that speak of Throwable's two statics -/
def mj_nw : List Cond := [.isRef (.static "java/lang/Throwable" "UNASSIGNED_STACK" "[Ljava/lang/StackTraceElement;"), .isRef (.static "java/lang/Throwable" "SUPPRESSED_SENTINEL" "Ljava/util/List;")]
/-- the handlers of a method: six of the law's catch -/
def mj_htl (n : String) : List (Nat × Nat × Nat × Nat) := if n = "type" then [(0, 9, 12, 13)] else if n = "element" then [(0, 9, 12, 19)] else if n = "bond" then [(0, 12, 15, 19)] else if n = "hydrogens" then [(0, 10, 13, 19)] else if n = "ways" then [(0, 9, 12, 19)] else if n = "write" then [(0, 9, 12, 19)] else []
def mj_ht (M : mj_M) : List (Nat × Nat × Nat × Nat) := if M.own = "IsomerListLaw" then mj_htl M.name else []
/-- what the law's start gives -/
def mj_F (Γ : mj_G) : Prop :=
  (∃ a0 : Array Value, ∀ w ∈ lw_tbl, w.before a0 Γ.s = true) ∧ va_K Γ.D mj_cl (mj_tys Γ) Γ.s ∧
  (∀ k, k < 3 → va_Z "IsomerList" (mj_rn k).1 (mj_rn k).2 (.ref (Γ.ra k)) (mj_A Γ) Γ.s Γ.s.heap) ∧
  (∀ k, k < 4 → va_T (mj_at (mj_rt k)) (Γ.ra k) (Γ.ro k).1 (fun j => .int (mj_ai (Γ.ro k) j)) (mj_A Γ) Γ.s Γ.s.heap) ∧
  (∃ a0 : Array Value, ∀ w ∈ mj_nw, w.before a0 Γ.s = true) ∧ ∀ e : Env, Γ.l.admits e → e.platform.stackTraces = false
/-- a state of the law's run: the tables as at the start or warmer, the start's cells as they were -/
def mj_C (Γ : mj_G) (U : State) : Prop :=
  mj_F Γ ∧ Γ.s.WarmedH U.vm ∧ Γ.s.heap.size ≤ U.heap.size ∧ ∀ q : Nat, q < Γ.s.heap.size → U.heap[q]? = Γ.s.heap[q]?
def mj_W (Γ : mj_G) (S : mj_S) (H : Heap) : Prop :=
  H.size = Γ.s.heap.size + S.2.2 ∧ S.2.1 ≤ S.2.2 ∧ S.2.1 ≤ mj_st ∧ va_P Γ.D mj_cl (mj_ws Γ S) H ∧
  ∀ k, k < 4 → S.1 (mj_st + k) = .inl (mj_rt k, Γ.ro k)
def mj_jk : Value → Bool := fun v => match v with
  | .retAddr _ => true
  | _ => false
def mj_L (Γ : mj_G) (ls : Array Slot) (lv : List Value) : Prop :=
  ls.size = lv.length ∧ lv_wf ls ∧ ∀ (i : Nat) (v : Value), lv[i]? = some v → mj_jk v = false → ls[i]? = some (.val (mj_v Γ v))
def mj_o (Γ : mj_G) (out : mj_O) (o : Outcome) (t : State) : Prop := match out with
  | .inl v => o = .returned (v.map (mj_v Γ))
  | .inr x => ∃ (a : Addr) (cell : Cell), o = .threw a ∧ t.heap[a]? = some cell ∧ (∀ k, cell.vm ≠ .statics k) ∧ t.vm.findClass (mj_xn x) = some cell.cls
/-- the end of a method that began in s -/
def mj_R (Γ : mj_G) (s : State) (mc ms : Nat) (P : mj_O → mj_S → Prop) (o : Outcome) (t : State) : Prop :=
  (∃ (out : mj_O) (S' : mj_S), mj_o Γ out o t ∧ P out S' ∧ mj_W Γ S' t.heap) ∧ va_F (mj_A Γ) s t ∧ s.WarmedH t.vm ∧ ∃ L, s.sameButNew ({ t with vm := s.vm } : State) L mc ms ∧ ∀ q ∈ L, mj_A Γ q.base
def mj_Q (Γ : mj_G) (below : List Frame) (s : State) (mc ms : Nat) (P : mj_O → mj_S → Prop) : State → Prop := fun t =>
  ∃ o : Outcome, t.status = .running ∧ Ended t below o ∧ mj_R Γ s mc ms P o t
def mj_X (Γ : mj_G) (d : Nat) (M : mj_M) (k n : Nat) (p : Program) (R : Room) (s : State) (m : MethodId) (meth : Method) (c : Code) (cells slots : Nat) : Prop :=
  p.tables.exec = Jvm.exec ∧ c.code = M.cc ∧ meth.sig.returnType = M.ret ∧ meth.locks = false ∧ c.maxLocals = M.nL ∧ s.vm.findClass M.own = some m.cls ∧ mj_C Γ s ∧
  d ≤ R.frames ∧ 40 * d ≤ R.locals ∧ cells + k ≤ R.cells ∧ slots + n ≤ R.slots ∧ meth.name = M.name ∧ c.exceptionTable.toList.map (fun h => (h.startPc, h.endPc, h.handlerPc, h.catchType)) = mj_ht M
/-- FROM THIS ABSTRACT STATE THE METHOD M ENDS WITH P, making at most k more cells of n slots, nesting at most d frames -/
def mj_Ok (Γ : mj_G) (d : Nat) (M : mj_M) (k n pc : Nat) (lv st : List Value) (S : mj_S) (P : mj_O → mj_S → Prop) : Prop :=
  ∀ (p : Program) (e : Env) (R : Room) (s : State) (m : MethodId) (args : Array Value) (below : List Frame) (meth : Method) (c : Code) (H : Heap) (locs : List Loc) (cells slots : Nat) (ls : Array Slot),
    mj_X Γ d M k n p R s m meth c cells slots → va_S (mj_A Γ) s.heap H locs → mj_W Γ S H → mj_L Γ ls lv → lv.length = M.nL →
    W p Γ.l e R s m args below meth c H locs cells slots (mj_Q Γ below s (cells + k) (slots + n) P) (F0 m pc ls (st.map (mj_v Γ)))
/-- a method's contract, from one abstract state -/
def mj_Met (Γ : mj_G) (d : Nat) (y : MethodName) (M : mj_M) (av : List Value) (S : mj_S) (mc ms : Nat) (P : mj_O → mj_S → Prop) : Prop :=
  MetFree Γ.l y (headSpec [Cond.code y M.cc M.nL M.ret] { frames := d, cells := mc, slots := ms, locals := 40 * d })
    (fun v U => v = (av.map (mj_v Γ)).toArray ∧ mj_C Γ U ∧ mj_W Γ S U.heap) (fun _ _ _ _ _ => True) (fun _ st o t => mj_R Γ st mc ms P o t)
/-! small facts -/
theorem mj_ad_lt {Γ : mj_G} {k : Nat} (h : k < mj_st) : mj_ad Γ k = Γ.s.heap.size + k := if_pos h
theorem mj_ad_ro {Γ : mj_G} (k : Nat) : mj_ad Γ (mj_st + k) = Γ.ra k := by
  unfold mj_ad
  rw [if_neg (by omega), Nat.add_sub_cancel_left]
theorem mj_ws_at {Γ : mj_G} {S : mj_S} {k : Nat} (h : k < S.2.1) : (mj_ws Γ S)[k]? = some (mj_ad Γ k, mj_e Γ (S.1 k)) := by
  simp [mj_ws, h]
theorem mj_ws_inv {Γ : mj_G} {S : mj_S} {k : Nat} {q : Nat × va_E} (h : (mj_ws Γ S)[k]? = some q) : k < S.2.1 ∧ q = (mj_ad Γ k, mj_e Γ (S.1 k)) := by
  have h1 : k < (mj_ws Γ S).length := (List.getElem?_eq_some_iff.mp h).1
  have h2 : k < S.2.1 := by simpa [mj_ws] using h1
  exact ⟨h2, Option.some.inj (h.symm.trans (mj_ws_at h2))⟩
theorem mj_W.D {Γ : mj_G} {S : mj_S} {H : Heap} (h : mj_W Γ S H) : va_D (mj_A Γ) (mj_ws Γ S) := by
  have hs := h.2.2.1
  refine ⟨fun i j p q hi hj e => ?_, fun k q hk => ?_⟩
  · obtain ⟨h1, rfl⟩ := mj_ws_inv hi
    obtain ⟨h2, rfl⟩ := mj_ws_inv hj
    have e : mj_ad Γ i = mj_ad Γ j := e
    rw [mj_ad_lt (by omega), mj_ad_lt (by omega)] at e
    omega
  · obtain ⟨h1, rfl⟩ := mj_ws_inv hk
    show Γ.s.heap.size ≤ mj_ad Γ k
    rw [mj_ad_lt (by omega)]
    omega
theorem mj_C.K {Γ : mj_G} {U : State} (h : mj_C Γ U) : va_K Γ.D mj_cl (mj_tys Γ) U := va_K.moved h.2.1.alike h.1.2.1
theorem mj_C.w {Γ : mj_G} {U : State} (h : mj_C Γ U) (a : Array Value) : ∀ w ∈ mj_tb, w.before a U = true := by
  intro w hw
  obtain ⟨h1, h2⟩ := mj_tb_good hw
  obtain ⟨a0, h0⟩ := h.1.1
  exact word_at h.2.1 (good_of_word h2) (h0 w h1)
theorem mj_C.nF {Γ : mj_G} {U : State} (h : mj_C Γ U) {a : String} {i : Nat} {b n d ho : String} (hw : Cond.fieldLinkNest a i b n d ho ∈ lw_tbl) (x : Array Value) : (Cond.fieldLinkNest a i b n d ho).before x U = true := by
  obtain ⟨a0, h0⟩ := h.1.1
  exact va_Nw.use rfl (va_Nw.warmF h.2.1 (va_Nw.of rfl (h0 _ hw)))
theorem mj_C.nM {Γ : mj_G} {U : State} (h : mj_C Γ U) {a : String} {i : Nat} {y : MethodName} {ho : String} (hw : Cond.methodLinkNest a i y ho ∈ lw_tbl) : va_Nw (.methodLinkNest a i y ho) U := by
  obtain ⟨a0, h0⟩ := h.1.1
  exact va_Nw.warmM h.2.1 (va_Nw.of rfl (h0 _ hw))
theorem mj_C.kept {Γ : mj_G} {U : State} (h : mj_C Γ U) : ∀ a : Nat, a < Γ.s.heap.size → ¬ mj_A Γ a → U.heap[a]? = Γ.s.heap[a]? := fun a h1 _ => h.2.2.2 a h1
theorem mj_C.Z {Γ : mj_G} {U : State} (h : mj_C Γ U) {k : Nat} (hk : k < 3) : va_Z "IsomerList" (mj_rn k).1 (mj_rn k).2 (.ref (Γ.ra k)) (mj_A Γ) U U.heap := ((h.1.2.2.1 k hk).moved h.2.1.alike).kept h.kept
theorem mj_C.T {Γ : mj_G} {U : State} (h : mj_C Γ U) {k : Nat} (hk : k < 4) : va_T (mj_at (mj_rt k)) (Γ.ra k) (Γ.ro k).1 (fun j => .int (mj_ai (Γ.ro k) j)) (mj_A Γ) U U.heap := ((h.1.2.2.2.1 k hk).moved h.2.1.alike).kept h.kept
theorem mj_C.step {Γ : mj_G} {s t : State} (h : mj_C Γ s) (hw : s.WarmedH t.vm) (hf : va_F (mj_A Γ) s t) : mj_C Γ t := by
  obtain ⟨h1, h2, h3, h4⟩ := h
  exact ⟨h1, State.WarmedH.trans h2 hw, Nat.le_trans h3 hf.1, fun q hq => (hf.2 q (Nat.lt_of_lt_of_le hq h3) (Nat.not_le.mpr hq)).trans (h4 q hq)⟩
theorem mj_map_cons {Γ : mj_G} (v : Value) (l : List Value) : (v :: l).map (mj_v Γ) = mj_v Γ v :: l.map (mj_v Γ) := rfl
theorem mj_v_cat {Γ : mj_G} (v : Value) : (mj_v Γ v).category = v.category := by cases v <;> rfl
theorem mj_L.at {Γ : mj_G} {ls : Array Slot} {lv : List Value} (h : mj_L Γ ls lv) {i : Nat} {v : Value} (hi : lv[i]? = some v) (hj : mj_jk v = false) : ls[i]? = some (.val (mj_v Γ v)) := h.2.2 i v hi hj
/-- a store into a local, by the kit's row -/
def mj_al (Γ : mj_G) (lv : List Value) : List (Nat × Value) := (List.range lv.length).filterMap fun i => match lv[i]? with
  | some v => if mj_jk v = false then some (i, mj_v Γ v) else none
  | none => none
theorem mj_L.has {Γ : mj_G} {ls : Array Slot} {lv : List Value} (h : mj_L Γ ls lv) : lv_has ls lv.length (mj_al Γ lv) := by
  refine ⟨h.1, h.2.1, fun q hq => ?_⟩
  obtain ⟨i, -, hi⟩ := List.mem_filterMap.mp hq
  cases hv : lv[i]? with
  | none => rw [hv] at hi; simp at hi
  | some v =>
    rw [hv] at hi
    by_cases hj : mj_jk v = false
    · simp [hj] at hi
      rw [← hi]
      exact h.2.2 i v hv hj
    · simp [hj] at hi
theorem mj_al_mem {Γ : mj_G} {lv : List Value} {i : Nat} {v : Value} (hi : lv[i]? = some v) (hj : mj_jk v = false) : (i, mj_v Γ v) ∈ mj_al Γ lv := by
  refine List.mem_filterMap.mpr ⟨i, List.mem_range.mpr (List.getElem?_eq_some_iff.mp hi).1, ?_⟩
  simp [hi, hj]
/-- no local holds a long or a double -/
def mj_c1 (lv : List Value) : Bool := lv.all fun v => v.category == 1
theorem mj_L.store {Γ : mj_G} {ls' : Array Slot} {lv : List Value} {i : Nat} {v : Value} (hc : mj_c1 lv = true)
    (h : lv_has ls' lv.length ((i, mj_v Γ v) :: (mj_al Γ lv).filter (fun q => !(q.1 == i) && !(q.1 + 1 == i && q.2.category == 2)))) : mj_L Γ ls' (lv.set i v) := by
  refine ⟨by rw [h.1, List.length_set], h.2.1, fun j w hj hw => ?_⟩
  by_cases e : i = j
  · subst e
    have hl : i < lv.length := by
      have := (List.getElem?_eq_some_iff.mp hj).1
      rwa [List.length_set] at this
    rw [List.getElem?_set_self hl] at hj
    cases hj
    exact h.2.2 _ List.mem_cons_self
  · rw [List.getElem?_set_ne e] at hj
    refine h.2.2 (j, mj_v Γ w) (List.mem_cons_of_mem _ (List.mem_filter.mpr ⟨mj_al_mem hj hw, ?_⟩))
    have h1 : w.category = 1 := by
      have := List.all_eq_true.mp hc w (List.mem_of_getElem? hj)
      simpa using this
    have e' : ¬ j = i := fun q => e q.symm
    simp [e', mj_v_cat, h1]
