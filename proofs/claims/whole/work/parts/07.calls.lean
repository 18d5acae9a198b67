/-! mj, part 07: a method from its entry; calls. -/
def mj_ret (Q : Option Value → mj_S → Prop) : mj_O → mj_S → Prop := fun o S => match o with
  | .inl v => Q v S
  | .inr _ => False
theorem mj_args_mem : ∀ (vs : List Value) (i j : Nat) (v : Value), mj_c1 vs = true → vs[j]? = some v → (i + j, v) ∈ lv_args i vs := by
  intro vs
  induction vs with
  | nil => intro i j v _ h; simp at h
  | cons a r ih =>
    intro i j v hc h
    have hc' : a.category = 1 ∧ mj_c1 r = true := by simpa [mj_c1] using hc
    cases j with
    | zero =>
      simp at h
      subst h
      simp [lv_args]
    | succ j =>
      have h' : r[j]? = some v := by simpa using h
      have h2 := ih (i + 1) j v hc'.2 h'
      have e : i + (j + 1) = i + 1 + j := by omega
      rw [e]
      simp only [lv_args, hc'.1]
      exact List.mem_cons_of_mem _ h2
theorem mj_c1_map {Γ : mj_G} {vs : List Value} (h : mj_c1 vs = true) : mj_c1 (vs.map (mj_v Γ)) = true := by
  unfold mj_c1 at h ⊢
  rw [List.all_map]
  refine List.all_eq_true.mpr fun v hv => ?_
  have := List.all_eq_true.mp h v hv
  simpa [mj_v_cat] using this
theorem mj_sl_len : ∀ vs : List Value, mj_c1 vs = true → (lg_sl vs).length = vs.length := by
  intro vs
  induction vs with
  | nil => intro _; rfl
  | cons a r ih =>
    intro hc
    have hc' : a.category = 1 ∧ mj_c1 r = true := by simpa [mj_c1] using hc
    have h2 := ih hc'.2
    cases a <;> simp_all [lg_sl, Value.category]
/-- A METHOD FROM ITS ENTRY -/
theorem mj_Met.of {Γ : mj_G} {d : Nat} {y : MethodName} {M : mj_M} {av lv : List Value} {S : mj_S} {mc ms : Nat} {P : mj_O → mj_S → Prop} (hy : plainName y.cls = true) (hM : y.cls = M.own ∧ y.name = M.name) (hc : mj_c1 av = true) (hlv : lv = av ++ List.replicate (M.nL - av.length) (.retAddr 0)) (hle : Nat.ble av.length M.nL = true)
    (h : mj_Ok Γ d M mc ms 0 lv [] S P) (hh : mj_ht M = [] := by decide) : mj_Met Γ d y M av S mc ms P := by
  refine MetFree.of_bodyS (code := M.cc) (maxLocals := M.nL) (ret := M.ret) hy ?_ ?_
  · intro args s m h hn
    obtain ⟨meth, c, h1, h2, h3, h4, h5, h6, -, -⟩ := Cond.code_spec hn (atoms_spec (ws := [Cond.code y M.cc M.nL M.ret]) h _ List.mem_cons_self)
    exact ⟨meth, c, h1, h2, h3, h4, h5, h6⟩
  · intro p e s m args below meth c s₁ B hml hP _
    obtain ⟨rfl, hC, hW⟩ := hP
    have hh0 : s₁.heap = s.heap := by rw [B.state]; rfl
    have hcode : (Cond.code y M.cc M.nL M.ret).before (av.map (mj_v Γ)).toArray s = true := atoms_spec (ws := [Cond.code y M.cc M.nL M.ret]) B.pre _ List.mem_cons_self
    have hown : s.vm.findClass M.own = some m.cls := by rw [← hM.1]; exact findClass_of_methodNamed B.named
    have hnm : meth.name = M.name := ((name_of_methodNamed B.named B.method).1).trans hM.2
    have hle' : av.length ≤ M.nL := Nat.le_of_ble_eq_true hle
    have hc1 := mj_c1_map (Γ := Γ) hc
    have hsl : (lg_sl (av.map (mj_v Γ))).length = av.length := by rw [mj_sl_len _ hc1, List.length_map]
    have hl := lv_entry (av.map (mj_v Γ)) (n := M.nL) (by rw [hsl]; exact hle')
    have hlen : lv.length = M.nL := by rw [hlv, List.length_append, List.length_replicate]; omega
    have hL : mj_L Γ ((lg_sl (av.map (mj_v Γ)) ++ List.replicate (M.nL - (lg_sl (av.map (mj_v Γ))).length) Slot.unset).toArray) lv := by
      refine ⟨hl.1.trans hlen.symm, hl.2.1, fun i v hi hj => ?_⟩
      rw [hlv] at hi
      by_cases hlt : i < av.length
      · rw [List.getElem?_append_left hlt] at hi
        have h3 : (av.map (mj_v Γ))[i]? = some (mj_v Γ v) := by rw [List.getElem?_map, hi]; rfl
        have h4 := mj_args_mem _ 0 i _ hc1 h3
        rw [Nat.zero_add] at h4
        exact hl.2.2 _ h4
      · rw [List.getElem?_append_right (by omega)] at hi
        have h5 := List.mem_of_getElem? hi
        rw [(List.mem_replicate.mp h5).2] at hj
        exact absurd hj (by decide)
    have w := h p e (headSpec [Cond.code y M.cc M.nL M.ret] { frames := d, cells := mc, slots := ms, locals := 40 * d }).room s m (av.map (mj_v Γ)).toArray below meth c s.heap [] 0 0 _
      ⟨B.exec, B.bytes, B.returns, B.notSynchronized, hml, hown, hC, Nat.le_refl _, Nat.le_refl _, by simp [headSpec], by simp [headSpec], hnm, by rw [hh, Array.isEmpty_iff.mp (BodyLoose.noHandlers B hcode)]; rfl⟩ va_S.rf hW hL hlen
    rw [Nat.zero_add, Nat.zero_add] at w
    have w2 : W p Γ.l e (headSpec [Cond.code y M.cc M.nL M.ret] { frames := d, cells := mc, slots := ms, locals := 40 * d }).room s m (av.map (mj_v Γ)).toArray below meth c s.heap [] 0 0 (mj_Q Γ below s mc ms P) (entryFrame m (av.map (mj_v Γ)).toArray M.nL) := by
      rw [lg_entry_eq]
      exact w
    obtain ⟨t, a1, o, b1, b2, b3⟩ := w2 s₁ hh0 (Stand.of_body B)
    exact ⟨t, o, a1, b1, b2, b3⟩
theorem mj_Met.more {Γ : mj_G} {d : Nat} {y : MethodName} {M : mj_M} {av : List Value} {S : mj_S} {mc ms : Nat} {P P' : mj_O → mj_S → Prop} (hp : ∀ o S', P o S' → P' o S') (h : mj_Met Γ d y M av S mc ms P) : mj_Met Γ d y M av S mc ms P' := by
  intro p e h1 h2 h3 s m args below h4 h5 h6 h7
  obtain ⟨n, o, a1, a2, a3, ⟨out, S', c1, c2, c3⟩, c4⟩ := h p e h1 h2 h3 s m args below h4 h5 h6 h7
  exact ⟨n, o, a1, a2, a3, ⟨out, S', c1, hp _ _ c2, c3⟩, c4⟩
/-- a method that returns, as the kit's contract -/
theorem mj_Met.met {Γ : mj_G} {d : Nat} {y : MethodName} {M : mj_M} {av : List Value} {S : mj_S} {mc ms : Nat} {Q : Option Value → mj_S → Prop} (h : mj_Met Γ d y M av S mc ms (mj_ret Q)) :
    Met Γ.l y [Cond.code y M.cc M.nL M.ret] { frames := d, cells := mc, slots := ms, locals := 40 * d } (fun v U => v = (av.map (mj_v Γ)).toArray ∧ mj_C Γ U ∧ mj_W Γ S U.heap) (fun _ st o t => mj_R Γ st mc ms (mj_ret Q) o t) mc ms (mj_A Γ) := by
  intro p e h1 h2 h3 s m args below h4 h5 h6 h7
  obtain ⟨n, o, a1, a2, a3, b⟩ := h p e h1 h2 h3 s m args below h4 h5 h6 h7
  refine ⟨n, o, a1, a2, a3, b, ?_⟩
  obtain ⟨⟨out, S', c1, c2, c3⟩, c4, c5, L, c6, c7⟩ := b
  refine ⟨L, ⟨?_, c5, c6⟩, c7⟩
  cases out with
  | inl v => exact ⟨_, c1⟩
  | inr x => exact c2.elim
theorem mj_C.here {Γ : mj_G} {s U : State} {H : Heap} {locs : List Loc} (h : mj_C Γ s) (hS : va_S (mj_A Γ) s.heap H locs) (hU : U.heap = H) (hw : s.WarmedH U.vm) : mj_C Γ U := by
  obtain ⟨h1, h2, h3, h4⟩ := h
  exact ⟨h1, State.WarmedH.trans h2 hw, by rw [hU]; exact Nat.le_trans h3 hS.1, fun q hq => by rw [hU]; exact (hS.2.1 q (Nat.lt_of_lt_of_le hq h3) (Nat.not_le.mpr hq)).trans (h4 q hq)⟩
section MJ7
variable {Γ : mj_G} {d d1 : Nat} {M M1 : mj_M} {k n pc mc ms : Nat} {lv st : List Value} {S : mj_S} {P : mj_O → mj_S → Prop} {Q : Option Value → mj_S → Prop} {y : MethodName}
theorem mj_go {p : Program} {e : Env} {R : Room} {s : State} {m : MethodId} {args : Array Value} {below : List Frame} {meth : Method} {c : Code} {H : Heap} {locs : List Loc} {cells slots : Nat} {ls : Array Slot} {st0 : List Value}
    (hX : mj_X Γ d M (k + mc) (n + ms) p R s m meth c cells slots) (hS : va_S (mj_A Γ) s.heap H locs) (hL : mj_L Γ ls lv) (hN : lv.length = M.nL)
    (hr : va_Run p Γ.l e R s m args below meth c H locs cells slots mc ms (F0 m pc ls st0) (st.map (mj_v Γ)) (fun st o t => mj_R Γ st mc ms (mj_ret Q) o t) (mj_A Γ))
    (hk : ∀ (v : Option Value) (S' : mj_S), Q v S' → mj_Ok Γ d M k n (pc + 3) lv (v.toList ++ st) S' P) :
    W p Γ.l e R s m args below meth c H locs cells slots (mj_Q Γ below s (cells + (k + mc)) (slots + (n + ms)) P) (F0 m pc ls st0) := by
  intro T hT X
  obtain ⟨v, st₀, t, T', L, h0, X', hL', e1, e2, ⟨⟨out, S', c1, c2, c3⟩, ⟨f1, f2⟩, c5⟩, hgo⟩ := hr T hT X
  cases out with
  | inr x => exact c2.elim
  | inl v0 =>
    have hv : v = v0.map (mj_v Γ) := Outcome.returned.inj c1
    subst hv
    obtain ⟨x1, x2, x3, x4, x5, x6, x7, x8, x9, x10, x11, x12⟩ := hX
    rw [h0] at f1 f2
    have hS' : va_S (mj_A Γ) s.heap T'.heap (locs ++ L) := by
      refine ⟨Nat.le_trans hS.1 (by rw [e1]; exact f1), fun q h1 h2 => ?_, fun q hq => ?_⟩
      · rw [e1, f2 q (Nat.lt_of_lt_of_le h1 hS.1) h2]
        exact hS.2.1 q h1 h2
      · rcases List.mem_append.mp hq with h | h
        · exact hS.2.2 q h
        · exact hL' q h
    have w := hk v0 S' c2 p e R s m args below meth c T'.heap (locs ++ L) (cells + mc) (slots + ms) ls ⟨x1, x2, x3, x4, x5, x6, x7, x8, x9, by omega, by omega, x12⟩ hS' (by rw [e1]; exact c3) hL hN
    rw [show cells + mc + k = cells + (k + mc) by omega, show slots + ms + n = slots + (n + ms) by omega] at w
    have e3 : (v0.toList ++ st).map (mj_v Γ) = (v0.map (mj_v Γ)).toList ++ st.map (mj_v Γ) := by
      cases v0 <;> simp
    rw [e3] at w
    obtain ⟨t2, a1, b1⟩ := w T' rfl X'
    exact ⟨t2, hgo t2 a1, b1⟩
/-- what a call asks of the tables, besides the link -/
def mj_cw (y : MethodName) (M : mj_M) (n : Nat) : Prop :=
  Cond.code y M.cc M.nL M.ret ∈ mj_tb ∧ Cond.initialized y.cls ∈ mj_tb ∧ (y.cls ≠ "java/lang/invoke/MethodHandle" ∧ y.cls ≠ "java/lang/invoke/VarHandle" ∧ (parseMethodDescriptor y.desc).map (fun d => d.parameters.length) = some n) ∧ M.nL ≤ 21
theorem mj_cw_spec {y : MethodName} {M : mj_M} {n : Nat} (h : mj_cw y M n) : Cond.code y M.cc M.nL M.ret ∈ mj_tb ∧ Cond.initialized y.cls ∈ mj_tb ∧ (y.cls ≠ "java/lang/invoke/MethodHandle" ∧ y.cls ≠ "java/lang/invoke/VarHandle" ∧ (parseMethodDescriptor y.desc).map (fun d => d.parameters.length) = some n) ∧ M.nL ≤ 21 := h
theorem mj_goodIn {ws : List Cond} (h : ∀ w ∈ ws, w ∈ mj_tb) : GoodIn mj_tb ws := fun w hw => ⟨h w hw, good_of_word (mj_tb_good (h w hw)).2⟩
theorem mj_pre {s : State} {H : Heap} {locs : List Loc} {av : List Value} (hC : mj_C Γ s) (hS : va_S (mj_A Γ) s.heap H locs) (hW : mj_W Γ S H) : PreS s H (fun v U => v = (av.map (mj_v Γ)).toArray ∧ mj_C Γ U ∧ mj_W Γ S U.heap) (av.map (mj_v Γ)) :=
  ⟨fun _ _ _ _ h => h, fun U hU hw => ⟨rfl, hC.here hS hU hw, by rw [hU]; exact hW⟩⟩
theorem mj_callV {idx a ci : Nat} {q : vw_C} {fs As : List Value} (hd : decode M.cc pc = .ok (.invokevirtual idx, 3)) (hM : mj_Met Γ d1 y M1 (.ref a :: As) S mc ms (mj_ret Q)) (hcw : mj_cw y M1 As.length) (hw : Cond.methodLink M.own idx y ∈ mj_tb ∧ Cond.instanceMethod y ∈ mj_tb ∧ Cond.selects y.cls y y ∈ mj_tb)
    (hq : mj_cl[ci]? = some q) (hqc : q.1 = y.cls) (ha : a < S.2.1) (he : S.1 a = .inr (ci, fs)) (hd1 : d1 < d) (hst : Nat.ble (st.map fun v => v.category).sum 8 = true)
    (hk : ∀ (v : Option Value) (S' : mj_S), Q v S' → mj_Ok Γ d M k n (pc + 3) lv (v.toList ++ st) S' P) : mj_Ok Γ d M (k + mc) (n + ms) pc lv (As.reverse ++ .ref a :: st) S P := by
  intro p e R s m args below meth c H locs cells slots ls hX hS hW hL hN
  have hX0 := hX
  obtain ⟨x1, x2, x3, x4, x5, x6, x7, x8, x9, x10, x11, x12⟩ := hX
  obtain ⟨g1, g2, g3, g4⟩ := mj_cw_spec hcw
  obtain ⟨w1, w2, w3⟩ := hw
  have hts := x7.w args
  have hB : CallB R s args M.own idx y M1.cc M1.nL M1.ret [Cond.code y M1.cc M1.nL M1.ret] { frames := d1, cells := mc, slots := ms, locals := 40 * d1 } mc ms As.length :=
    callB_of As.length hts (mj_goodIn (by simpa using g1)) rfl rfl rfl (hts _ g2) (hts _ w1) g3 ⟨by show d1 + 1 ≤ _; omega, by show 8 + (M1.nL + 11) + 40 * d1 ≤ _; omega⟩
  have hp := mj_pre (av := .ref a :: As) x7 hS hW
  have he' : (mj_ws Γ S)[a]? = some (mj_ad Γ a, .inr (ci, fs.map (mj_v Γ))) := by rw [mj_ws_at ha, he]; rfl
  have hrec := va_recv x7.K hW.2.2.2.1 hq he'
  rw [hqc] at hrec
  have hroom : 2 * (F0 m pc ls ((As.reverse ++ .ref a :: st).map (mj_v Γ))).monitorRoom + ((st.map (mj_v Γ)).map fun v => v.category).sum ≤ 8 := by
    have : (st.map (mj_v Γ)).map (fun v => v.category) = st.map (fun v => v.category) := by simp [mj_v_cat]
    rw [this]
    exact lv_room (rest := (As.reverse ++ .ref a :: st).map (mj_v Γ)) (Nat.le_of_ble_eq_true hst)
  refine mj_go hX0 hS hL hN (va_runV (As := As.map (mj_v Γ)) (rest := st.map (mj_v Γ)) (nL := M.nL) ⟨x1, x2, x5, x6, hts⟩ hM.met ⟨hB, hts _ w2, hts _ w3⟩ ⟨hp.1, hrec, hp.2⟩ rfl (List.length_map _) (hL.1.trans hN) ?_ hroom hd ⟨by omega, by omega⟩) hk
  simp [mj_v]
theorem mj_stat_pre {As : List Value} : ((As.reverse ++ st).map (mj_v Γ)) = (As.map (mj_v Γ)).reverse ++ st.map (mj_v Γ) := by simp
theorem mj_callS {idx : Nat} {As : List Value} (hd : decode M.cc pc = .ok (.invokestatic idx, 3)) (hM : mj_Met Γ d1 y M1 As S mc ms (mj_ret Q)) (hcw : mj_cw y M1 As.length) (hw : Cond.methodLink M.own idx y ∈ mj_tb ∧ Cond.static y ∈ mj_tb)
    (hd1 : d1 < d) (hst : Nat.ble (st.map fun v => v.category).sum 8 = true)
    (hk : ∀ (v : Option Value) (S' : mj_S), Q v S' → mj_Ok Γ d M k n (pc + 3) lv (v.toList ++ st) S' P) : mj_Ok Γ d M (k + mc) (n + ms) pc lv (As.reverse ++ st) S P := by
  intro p e R s m args below meth c H locs cells slots ls hX hS hW hL hN
  have hX0 := hX
  obtain ⟨x1, x2, x3, x4, x5, x6, x7, x8, x9, x10, x11, x12⟩ := hX
  obtain ⟨g1, g2, g3, g4⟩ := mj_cw_spec hcw
  obtain ⟨w1, w2⟩ := hw
  have hts := x7.w args
  have hB : CallB R s args M.own idx y M1.cc M1.nL M1.ret [Cond.code y M1.cc M1.nL M1.ret] { frames := d1, cells := mc, slots := ms, locals := 40 * d1 } mc ms As.length :=
    callB_of As.length hts (mj_goodIn (by simpa using g1)) rfl rfl rfl (hts _ g2) (hts _ w1) g3 ⟨by show d1 + 1 ≤ _; omega, by show 8 + (M1.nL + 11) + 40 * d1 ≤ _; omega⟩
  have hroom : 2 * (F0 m pc ls ((As.reverse ++ st).map (mj_v Γ))).monitorRoom + ((st.map (mj_v Γ)).map fun v => v.category).sum ≤ 8 := by
    have : (st.map (mj_v Γ)).map (fun v => v.category) = st.map (fun v => v.category) := by simp [mj_v_cat]
    rw [this]
    exact lv_room (rest := (As.reverse ++ st).map (mj_v Γ)) (Nat.le_of_ble_eq_true hst)
  exact mj_go hX0 hS hL hN (va_runS (As := As.map (mj_v Γ)) (rest := st.map (mj_v Γ)) (nL := M.nL) ⟨x1, x2, x5, x6, hts⟩ hM.met ⟨hB, hts _ w2⟩ (mj_pre (av := As) x7 hS hW) rfl (List.length_map _) (hL.1.trans hN) mj_stat_pre hroom hd ⟨by omega, by omega⟩) hk
theorem mj_callSN {idx : Nat} {As : List Value} (hd : decode M.cc pc = .ok (.invokestatic idx, 3)) (hM : mj_Met Γ d1 y M1 As S mc ms (mj_ret Q)) (hcw : mj_cw y M1 As.length) (hw : Cond.methodLinkNest M.own idx y "IsomerList" ∈ lw_tbl ∧ Cond.static y ∈ mj_tb)
    (hd1 : d1 < d) (hst : Nat.ble (st.map fun v => v.category).sum 8 = true)
    (hk : ∀ (v : Option Value) (S' : mj_S), Q v S' → mj_Ok Γ d M k n (pc + 3) lv (v.toList ++ st) S' P) : mj_Ok Γ d M (k + mc) (n + ms) pc lv (As.reverse ++ st) S P := by
  intro p e R s m args below meth c H locs cells slots ls hX hS hW hL hN
  have hX0 := hX
  obtain ⟨x1, x2, x3, x4, x5, x6, x7, x8, x9, x10, x11, x12⟩ := hX
  obtain ⟨g1, g2, g3, g4⟩ := mj_cw_spec hcw
  obtain ⟨w1, w2⟩ := hw
  have hts := x7.w args
  have hB : va_CN R s args M.own idx y "IsomerList" M1.cc M1.nL M1.ret [Cond.code y M1.cc M1.nL M1.ret] { frames := d1, cells := mc, slots := ms, locals := 40 * d1 } mc ms As.length :=
    va_cnB As.length hts (mj_goodIn (by simpa using g1)) rfl rfl rfl (x7.nM w1) (hts _ g2) g3 ⟨by show d1 + 1 ≤ _; omega, by show 8 + (M1.nL + 11) + 40 * d1 ≤ _; omega⟩
  have hroom : 2 * (F0 m pc ls ((As.reverse ++ st).map (mj_v Γ))).monitorRoom + ((st.map (mj_v Γ)).map fun v => v.category).sum ≤ 8 := by
    have : (st.map (mj_v Γ)).map (fun v => v.category) = st.map (fun v => v.category) := by simp [mj_v_cat]
    rw [this]
    exact lv_room (rest := (As.reverse ++ st).map (mj_v Γ)) (Nat.le_of_ble_eq_true hst)
  exact mj_go hX0 hS hL hN (va_runSN (As := As.map (mj_v Γ)) (rest := st.map (mj_v Γ)) (nL := M.nL) ⟨x1, x2, x5, x6, hts⟩ hM.met ⟨hB, hts _ w2, trivial⟩ (mj_pre (av := As) x7 hS hW) rfl (List.length_map _) (hL.1.trans hN) mj_stat_pre hroom hd ⟨by omega, by omega⟩) hk
theorem mj_callI {idx a : Nat} {As : List Value} (hd : decode M.cc pc = .ok (.invokespecial idx, 3)) (hM : mj_Met Γ d1 y M1 (.ref a :: As) S mc ms (mj_ret Q)) (hcw : mj_cw y M1 As.length) (hw : Cond.methodLink M.own idx y ∈ mj_tb ∧ Cond.instanceMethod y ∈ mj_tb ∧ y.name = "<init>") (hrn : M1.ret = none)
    (hd1 : d1 < d) (hst : Nat.ble (st.map fun v => v.category).sum 8 = true)
    (hk : ∀ (v : Option Value) (S' : mj_S), Q v S' → mj_Ok Γ d M k n (pc + 3) lv (v.toList ++ st) S' P) : mj_Ok Γ d M (k + mc) (n + ms) pc lv (As.reverse ++ .ref a :: st) S P := by
  intro p e R s m args below meth c H locs cells slots ls hX hS hW hL hN
  have hX0 := hX
  obtain ⟨x1, x2, x3, x4, x5, x6, x7, x8, x9, x10, x11, x12⟩ := hX
  obtain ⟨g1, g2, g3, g4⟩ := mj_cw_spec hcw
  obtain ⟨w1, w2, w3⟩ := hw
  have hts := x7.w args
  have hM' := hM.met
  rw [hrn] at hM' g1
  have hB : CallB R s args M.own idx y M1.cc M1.nL none [Cond.code y M1.cc M1.nL none] { frames := d1, cells := mc, slots := ms, locals := 40 * d1 } mc ms As.length :=
    callB_of As.length hts (mj_goodIn (by simpa using g1)) rfl rfl rfl (hts _ g2) (hts _ w1) g3 ⟨by show d1 + 1 ≤ _; omega, by show 8 + (M1.nL + 11) + 40 * d1 ≤ _; omega⟩
  have hroom : 2 * (F0 m pc ls ((As.reverse ++ .ref a :: st).map (mj_v Γ))).monitorRoom + ((st.map (mj_v Γ)).map fun v => v.category).sum ≤ 8 := by
    have : (st.map (mj_v Γ)).map (fun v => v.category) = st.map (fun v => v.category) := by simp [mj_v_cat]
    rw [this]
    exact lv_room (rest := (As.reverse ++ .ref a :: st).map (mj_v Γ)) (Nat.le_of_ble_eq_true hst)
  refine mj_go hX0 hS hL hN (va_runI (b := mj_ad Γ a) (As := As.map (mj_v Γ)) (rest := st.map (mj_v Γ)) (nL := M.nL) ⟨x1, x2, x5, x6, hts⟩ hM' ⟨hB, w3, hts _ w2⟩ (mj_pre (av := .ref a :: As) x7 hS hW) rfl (List.length_map _) (hL.1.trans hN) ?_ hroom hd ⟨by omega, by omega⟩) hk
  simp [mj_v]
theorem mj_callIN {idx a : Nat} {As : List Value} (hd : decode M.cc pc = .ok (.invokespecial idx, 3)) (hM : mj_Met Γ d1 y M1 (.ref a :: As) S mc ms (mj_ret Q)) (hcw : mj_cw y M1 As.length) (hw : Cond.methodLinkNest M.own idx y "IsomerList" ∈ lw_tbl ∧ Cond.instanceMethod y ∈ mj_tb ∧ y.name = "<init>") (hrn : M1.ret = none)
    (hd1 : d1 < d) (hst : Nat.ble (st.map fun v => v.category).sum 8 = true)
    (hk : ∀ (v : Option Value) (S' : mj_S), Q v S' → mj_Ok Γ d M k n (pc + 3) lv (v.toList ++ st) S' P) : mj_Ok Γ d M (k + mc) (n + ms) pc lv (As.reverse ++ .ref a :: st) S P := by
  intro p e R s m args below meth c H locs cells slots ls hX hS hW hL hN
  have hX0 := hX
  obtain ⟨x1, x2, x3, x4, x5, x6, x7, x8, x9, x10, x11, x12⟩ := hX
  obtain ⟨g1, g2, g3, g4⟩ := mj_cw_spec hcw
  obtain ⟨w1, w2, w3⟩ := hw
  have hts := x7.w args
  have hM' := hM.met
  rw [hrn] at hM' g1
  have hB : va_CN R s args M.own idx y "IsomerList" M1.cc M1.nL none [Cond.code y M1.cc M1.nL none] { frames := d1, cells := mc, slots := ms, locals := 40 * d1 } mc ms As.length :=
    va_cnB As.length hts (mj_goodIn (by simpa using g1)) rfl rfl rfl (x7.nM w1) (hts _ g2) g3 ⟨by show d1 + 1 ≤ _; omega, by show 8 + (M1.nL + 11) + 40 * d1 ≤ _; omega⟩
  have hroom : 2 * (F0 m pc ls ((As.reverse ++ .ref a :: st).map (mj_v Γ))).monitorRoom + ((st.map (mj_v Γ)).map fun v => v.category).sum ≤ 8 := by
    have : (st.map (mj_v Γ)).map (fun v => v.category) = st.map (fun v => v.category) := by simp [mj_v_cat]
    rw [this]
    exact lv_room (rest := (As.reverse ++ .ref a :: st).map (mj_v Γ)) (Nat.le_of_ble_eq_true hst)
  refine mj_go hX0 hS hL hN (va_runIN (b := mj_ad Γ a) (As := As.map (mj_v Γ)) (rest := st.map (mj_v Γ)) (nL := M.nL) ⟨x1, x2, x5, x6, hts⟩ hM' ⟨hB, w3, hts _ w2⟩ (mj_pre (av := .ref a :: As) x7 hS hW) rfl (List.length_map _) (hL.1.trans hN) ?_ hroom hd ⟨by omega, by omega⟩) hk
  simp [mj_v]
theorem mj_objInit {idx a : Nat} (hd : decode M.cc pc = .ok (.invokespecial idx, 3)) (hw : Cond.methodLink M.own idx objectInit ∈ mj_tb ∧ Cond.instanceMethod objectInit ∈ mj_tb ∧ Cond.code objectInit ⟨#[0xb1]⟩ 1 none ∈ mj_tb) (hd0 : 0 < d) (hst : Nat.ble (st.map fun v => v.category).sum 8 = true)
    (h : mj_Ok Γ d M k n (pc + 3) lv st S P) : mj_Ok Γ d M k n pc lv (.ref a :: st) S P := by
  intro p e R s m args below meth c H locs cells slots ls hX hS hW hL hN
  have hX0 := hX
  obtain ⟨x1, x2, x3, x4, x5, x6, x7, x8, x9, x10, x11, x12⟩ := hX
  obtain ⟨w1, w2, w3⟩ := hw
  have hts := x7.w args
  have h8 : ((st.map (mj_v Γ)).map fun v => v.category).sum ≤ 8 := by
    have : (st.map (mj_v Γ)).map (fun v => v.category) = st.map (fun v => v.category) := by simp [mj_v_cat]
    rw [this]
    exact Nat.le_of_ble_eq_true hst
  refine W.objInit x1 x2 x6 (hts _ w1) (hts _ w2) (hts _ w3) rfl (by rw [x5]; exact hL.1.trans hN) rfl hd (by omega) (by show 2 * 0 + _ + 12 ≤ _; omega) ?_
  exact h p e R s m args below meth c H locs cells slots ls hX0 hS hW hL hN
end MJ7
