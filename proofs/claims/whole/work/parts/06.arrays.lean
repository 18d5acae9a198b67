/-! mj, part 06: arrays, static tables, what is made. -/
section MJ6
variable {Γ : mj_G} {d : Nat} {M : mj_M} {k n pc : Nat} {lv st : List Value} {S : mj_S} {P : mj_O → mj_S → Prop}
theorem mj_wsA {a t : Nat} {x : vp_A} (ha : a < S.2.1) (he : S.1 a = .inl (t, x)) : (mj_ws Γ S)[a]? = some (mj_ad Γ a, .inl (Γ.cA t, x)) := by rw [mj_ws_at ha, he]; rfl
theorem mj_iald {a N j : Nat} {i : Int32} {f : Nat → Int32} (hd : decode M.cc pc = .ok (.iaload, 1)) (ha : a < S.2.1) (he : S.1 a = .inl (0, N, .inl f)) (hi : i = nI j) (hj : j < N) (h : mj_Ok Γ d M k n (pc + 1) lv (.int (f j) :: st) S P) (hN : N < 2147483648 := by decide) : mj_Ok Γ d M k n pc lv (.int i :: .ref a :: st) S P := by
  subst hi
  intro p e R s m args below meth c H locs cells slots ls hX hS hW hL hN9
  have kk := h p e R s m args below meth c H locs cells slots ls hX hS hW hL hN9
  rw [← nI_clamp (n := j) (by omega)] at kk
  exact va_iald hX.1 hX.2.1 hX.2.2.2.2.2.2.1.K hW.2.2.2.1 a 0 (mj_wsA ha he) rfl (vp_in_nI hj hN) hd kk
theorem mj_cald {a N j : Nat} {i : Int32} {f : Nat → Int32} (hd : decode M.cc pc = .ok (.caload, 1)) (ha : a < S.2.1) (he : S.1 a = .inl (1, N, .inl f)) (hi : i = nI j) (hj : j < N) (h : mj_Ok Γ d M k n (pc + 1) lv (.int (f j) :: st) S P) (hN : N < 2147483648 := by decide) : mj_Ok Γ d M k n pc lv (.int i :: .ref a :: st) S P := by
  subst hi
  intro p e R s m args below meth c H locs cells slots ls hX hS hW hL hN9
  have kk := h p e R s m args below meth c H locs cells slots ls hX hS hW hL hN9
  rw [← nI_clamp (n := j) (by omega)] at kk
  exact va_cald hX.1 hX.2.1 hX.2.2.2.2.2.2.1.K hW.2.2.2.1 a 1 (mj_wsA ha he) rfl (vp_in_nI hj hN) hd kk
theorem mj_zald {a N j : Nat} {i : Int32} {f : Nat → Int32} (hd : decode M.cc pc = .ok (.baload, 1)) (ha : a < S.2.1) (he : S.1 a = .inl (2, N, .inl f)) (hi : i = nI j) (hj : j < N) (h : mj_Ok Γ d M k n (pc + 1) lv (.int (f j) :: st) S P) (hN : N < 2147483648 := by decide) : mj_Ok Γ d M k n pc lv (.int i :: .ref a :: st) S P := by
  subst hi
  intro p e R s m args below meth c H locs cells slots ls hX hS hW hL hN9
  have kk := h p e R s m args below meth c H locs cells slots ls hX hS hW hL hN9
  rw [← nI_clamp (n := j) (by omega)] at kk
  exact va_zald hX.1 hX.2.1 hX.2.2.2.2.2.2.1.K hW.2.2.2.1 a 2 (mj_wsA ha he) rfl (vp_in_nI hj hN) hd kk
theorem mj_lald {a N j : Nat} {i : Int32} {f : Nat → Int64} (hd : decode M.cc pc = .ok (.laload, 1)) (ha : a < S.2.1) (he : S.1 a = .inl (3, N, .inr (.inl f))) (hi : i = nI j) (hj : j < N) (h : mj_Ok Γ d M k n (pc + 1) lv (.long (f j) :: st) S P) (hN : N < 2147483648 := by decide) : mj_Ok Γ d M k n pc lv (.int i :: .ref a :: st) S P := by
  subst hi
  intro p e R s m args below meth c H locs cells slots ls hX hS hW hL hN9
  have kk := h p e R s m args below meth c H locs cells slots ls hX hS hW hL hN9
  rw [← nI_clamp (n := j) (by omega)] at kk
  exact va_lald hX.1 hX.2.1 hX.2.2.2.2.2.2.1.K hW.2.2.2.1 a 3 (mj_wsA ha he) rfl (vp_in_nI hj hN) hd kk
/-- the length of a known array -/
theorem mj_alen {a t : Nat} {x : vp_A} {ty : FieldType} (hd : decode M.cc pc = .ok (.arraylength, 1)) (ha : a < S.2.1) (he : S.1 a = .inl (t, x)) (ht : (mj_tys Γ)[t]? = some (Γ.cA t, ty)) (h : mj_Ok Γ d M k n (pc + 1) lv (.int (nI x.1) :: st) S P) : mj_Ok Γ d M k n pc lv (.ref a :: st) S P := by
  intro p e R s m args below meth c H locs cells slots ls hX hS hW hL hN9
  exact va_alen hX.1 hX.2.1 hX.2.2.2.2.2.2.1.K hW.2.2.2.1 a t (mj_wsA ha he) ht rfl hd (h p e R s m args below meth c H locs cells slots ls hX hS hW hL hN9)
theorem mj_at_arr {a t : Nat} {x : vp_A} {H : Heap} (hW : mj_W Γ S H) (ha : a < S.2.1) (he : S.1 a = .inl (t, x)) : H[mj_ad Γ a]? = some (vp_cell (Γ.cA t) x) := hW.get ha he
theorem mj_iast {a N j : Nat} {i x : Int32} {f : Nat → Int32} (hd : decode M.cc pc = .ok (.iastore, 1)) (ha : a < S.2.1) (he : S.1 a = .inl (0, N, .inl f)) (hi : i = nI j) (hj : j < N) (h : mj_Ok Γ d M k n (pc + 1) lv st (mj_up S a (.inl (0, N, .inl (upd f j x)))) P) (hN : N < 2147483648 := by decide) : mj_Ok Γ d M k n pc lv (.int x :: .int i :: .ref a :: st) S P := by
  subst hi
  intro p e R s m args below meth c H locs cells slots ls hX hS hW hL hN9
  have hv : vp_in (nI j) N := vp_in_nI hj hN
  have has : a < mj_st := Nat.lt_of_lt_of_le ha hW.2.2.1
  have hcl := nI_clamp (n := j) (by omega)
  refine W.iast hX.1 hX.2.1 (mj_at_arr hW ha he) ((hX.2.2.2.2.2.2.1.K.2 0 _ rfl).1 N (fun j => .int (f j))) (fun q => by cases q) (by show ¬ (nI j < 0 ∨ (arrV _ _ _).slots.size ≤ _); rw [arrV_size]; exact hv) rfl rfl hd fun H1 e1 z oq => ?_
  refine h p e R s m args below meth c H1 _ cells slots ls hX (mj_S_put hS has z oq) (hW.put ha ?_ z oq) hL hN9
  show H1[_]? = some (vp_cell _ _)
  rw [e1, vp_cell_i, vp_cell_i, arrV_store, hcl]
  congr 2
  funext q
  by_cases hq : q = j
  · subst hq
    simp [updV, upd]
  · simp [updV, upd, hq]
theorem mj_cast {a N j : Nat} {i x : Int32} {f : Nat → Int32} (hd : decode M.cc pc = .ok (.castore, 1)) (ha : a < S.2.1) (he : S.1 a = .inl (1, N, .inl f)) (hi : i = nI j) (hj : j < N) (hx : narrow .char (.int x) = .int x) (h : mj_Ok Γ d M k n (pc + 1) lv st (mj_up S a (.inl (1, N, .inl (upd f j x)))) P) (hN : N < 2147483648 := by decide) : mj_Ok Γ d M k n pc lv (.int x :: .int i :: .ref a :: st) S P := by
  subst hi
  intro p e R s m args below meth c H locs cells slots ls hX hS hW hL hN9
  have hv : vp_in (nI j) N := vp_in_nI hj hN
  have has : a < mj_st := Nat.lt_of_lt_of_le ha hW.2.2.1
  have hcl := nI_clamp (n := j) (by omega)
  refine W.cast hX.1 hX.2.1 (mj_at_arr hW ha he) ((hX.2.2.2.2.2.2.1.K.2 1 _ rfl).1 N (fun j => .int (f j))) (fun q => by cases q) (by show ¬ (nI j < 0 ∨ (arrV _ _ _).slots.size ≤ _); rw [arrV_size]; exact hv) rfl rfl hd fun H1 e1 z oq => ?_
  refine h p e R s m args below meth c H1 _ cells slots ls hX (mj_S_put hS has z oq) (hW.put ha ?_ z oq) hL hN9
  show H1[_]? = some (vp_cell _ _)
  rw [e1, hx, vp_cell_i, vp_cell_i, arrV_store, hcl]
  congr 2
  funext q
  by_cases hq : q = j
  · subst hq
    simp [updV, upd]
  · simp [updV, upd, hq]
theorem mj_zast {a N j : Nat} {i x : Int32} {f : Nat → Int32} (hd : decode M.cc pc = .ok (.bastore, 1)) (ha : a < S.2.1) (he : S.1 a = .inl (2, N, .inl f)) (hi : i = nI j) (hj : j < N) (hx : narrow .boolean (.int x) = .int x) (h : mj_Ok Γ d M k n (pc + 1) lv st (mj_up S a (.inl (2, N, .inl (upd f j x)))) P) (hN : N < 2147483648 := by decide) : mj_Ok Γ d M k n pc lv (.int x :: .int i :: .ref a :: st) S P := by
  subst hi
  intro p e R s m args below meth c H locs cells slots ls hX hS hW hL hN9
  have hv : vp_in (nI j) N := vp_in_nI hj hN
  have has : a < mj_st := Nat.lt_of_lt_of_le ha hW.2.2.1
  have hcl := nI_clamp (n := j) (by omega)
  refine W.zast hX.1 hX.2.1 (mj_at_arr hW ha he) ((hX.2.2.2.2.2.2.1.K.2 2 _ rfl).1 N (fun j => .int (f j))) (fun q => by cases q) (by show ¬ (nI j < 0 ∨ (arrV _ _ _).slots.size ≤ _); rw [arrV_size]; exact hv) rfl rfl hd fun H1 e1 z oq => ?_
  refine h p e R s m args below meth c H1 _ cells slots ls hX (mj_S_put hS has z oq) (hW.put ha ?_ z oq) hL hN9
  show H1[_]? = some (vp_cell _ _)
  rw [e1, hx, vp_cell_i, vp_cell_i, arrV_store, hcl]
  congr 2
  funext q
  by_cases hq : q = j
  · subst hq
    simp [updV, upd]
  · simp [updV, upd, hq]
theorem mj_last {a N j : Nat} {i : Int32} {x : Int64} {f : Nat → Int64} (hd : decode M.cc pc = .ok (.lastore, 1)) (ha : a < S.2.1) (he : S.1 a = .inl (3, N, .inr (.inl f))) (hi : i = nI j) (hj : j < N) (h : mj_Ok Γ d M k n (pc + 1) lv st (mj_up S a (.inl (3, N, .inr (.inl (vp_updL f j x))))) P) (hN : N < 2147483648 := by decide) : mj_Ok Γ d M k n pc lv (.long x :: .int i :: .ref a :: st) S P := by
  subst hi
  intro p e R s m args below meth c H locs cells slots ls hX hS hW hL hN9
  have hv : vp_in (nI j) N := vp_in_nI hj hN
  have has : a < mj_st := Nat.lt_of_lt_of_le ha hW.2.2.1
  have hcl := nI_clamp (n := j) (by omega)
  refine W.last hX.1 hX.2.1 (mj_at_arr hW ha he) ((hX.2.2.2.2.2.2.1.K.2 3 _ rfl).1 N (fun j => .long (f j))) (fun q => by cases q) (by show ¬ (nI j < 0 ∨ (arrV _ _ _).slots.size ≤ _); rw [arrV_size]; exact hv) rfl rfl hd fun H1 e1 z oq => ?_
  refine h p e R s m args below meth c H1 _ cells slots ls hX (mj_S_put hS has z oq) (hW.put ha ?_ z oq) hL hN9
  show H1[_]? = some (vp_cell _ _)
  rw [e1, vp_cell_l, vp_cell_l, arrV_store, hcl]
  congr 2
  funext q
  by_cases hq : q = j
  · subst hq
    simp [updV, vp_updL]
  · simp [updV, vp_updL, hq]
/-! the arrays that nobody writes -/
theorem mj_iro {r j : Nat} {i : Int32} (hd : decode M.cc pc = .ok (.iaload, 1)) (hr : r < 4) (ht : mj_rt r = 0) (hi : i = nI j) (hj : j < (Γ.ro r).1) (hN : (Γ.ro r).1 < 2147483648) (h : mj_Ok Γ d M k n (pc + 1) lv (.int (mj_ai (Γ.ro r) j) :: st) S P) : mj_Ok Γ d M k n pc lv (.int i :: .ref (mj_st + r) :: st) S P := by
  subst hi
  intro p e R s m args below meth c H locs cells slots ls hX hS hW hL hN9
  have kk := h p e R s m args below meth c H locs cells slots ls hX hS hW hL hN9
  have hT := hX.2.2.2.2.2.2.1.T hr
  rw [ht] at hT
  show W _ _ _ _ _ _ _ _ _ _ _ _ _ _ _ (F0 m pc ls (.int (nI j) :: .ref (mj_ad Γ (mj_st + r)) :: st.map (mj_v Γ)))
  rw [mj_ad_ro]
  exact va_ti hX.1 hX.2.1 hT hS (vp_in_nI hj hN) (by rw [nI_clamp (n := j) (by omega)]; rfl) hd kk
theorem mj_cro {r j : Nat} {i : Int32} (hd : decode M.cc pc = .ok (.caload, 1)) (hr : r < 4) (ht : mj_rt r = 1) (hi : i = nI j) (hj : j < (Γ.ro r).1) (hN : (Γ.ro r).1 < 2147483648) (h : mj_Ok Γ d M k n (pc + 1) lv (.int (mj_ai (Γ.ro r) j) :: st) S P) : mj_Ok Γ d M k n pc lv (.int i :: .ref (mj_st + r) :: st) S P := by
  subst hi
  intro p e R s m args below meth c H locs cells slots ls hX hS hW hL hN9
  have kk := h p e R s m args below meth c H locs cells slots ls hX hS hW hL hN9
  have hT := hX.2.2.2.2.2.2.1.T hr
  rw [ht] at hT
  show W _ _ _ _ _ _ _ _ _ _ _ _ _ _ _ (F0 m pc ls (.int (nI j) :: .ref (mj_ad Γ (mj_st + r)) :: st.map (mj_v Γ)))
  rw [mj_ad_ro]
  exact va_tc hX.1 hX.2.1 hT hS (vp_in_nI hj hN) (by rw [nI_clamp (n := j) (by omega)]; rfl) hd kk
theorem mj_lenro {r : Nat} (hd : decode M.cc pc = .ok (.arraylength, 1)) (hr : r < 4) (h : mj_Ok Γ d M k n (pc + 1) lv (.int (nI (Γ.ro r).1) :: st) S P) : mj_Ok Γ d M k n pc lv (.ref (mj_st + r) :: st) S P := by
  intro p e R s m args below meth c H locs cells slots ls hX hS hW hL hN9
  have kk := h p e R s m args below meth c H locs cells slots ls hX hS hW hL hN9
  have hT := hX.2.2.2.2.2.2.1.T hr
  show W _ _ _ _ _ _ _ _ _ _ _ _ _ _ _ (F0 m pc ls (.ref (mj_ad Γ (mj_st + r)) :: st.map (mj_v Γ)))
  rw [mj_ad_ro]
  exact va_tlen hX.1 hX.2.1 hT hS rfl hd kk
theorem mj_gets {idx r : Nat} (hd : decode M.cc pc = .ok (.getstatic idx, 3)) (hr : r < 3) (hw : mj_fw M.own idx "IsomerList" (mj_rn r).1 (mj_rn r).2) (h : mj_Ok Γ d M k n (pc + 3) lv (.ref (mj_st + r) :: st) S P) : mj_Ok Γ d M k n pc lv st S P := by
  intro p e R s m args below meth c H locs cells slots ls hX hS hW hL hN9
  have hC := hX.2.2.2.2.2.2.1
  have kk := h p e R s m args below meth c H locs cells slots ls hX hS hW hL hN9
  have e1 : mj_v Γ (.ref (mj_st + r)) = .ref (Γ.ra r) := congrArg Value.ref (mj_ad_ro r)
  rw [mj_map_cons, e1] at kk
  rcases mj_fw_or hw with hw | hw
  · exact va_gets hX.1 hX.2.1 (hC.Z hr) hS hX.2.2.2.2.2.1 (hC.w args _ hw) (fun _ h9 => h9) hd kk
  · exact va_getsN hX.1 hX.2.1 (hC.Z hr) hS hX.2.2.2.2.2.1 (hC.nF hw args) (fun _ h9 => h9) hd kk
/-! what is made -/
def mj_push (S : mj_S) (e : mj_E) : mj_S := (va_up S.1 S.2.1 e, S.2.1 + 1, S.2.2 + 1)
theorem mj_W.push {H H1 : Heap} {e : mj_E} (h : mj_W Γ S H) (hex : S.2.1 = S.2.2) (hst : S.2.1 < mj_st) (he : va_at Γ.D mj_cl (mj_ad Γ S.2.1, mj_e Γ e) H1) (hz : H1.size = H.size + 1) (hq : ∀ q : Nat, q < H.size → H1[q]? = H[q]?) : mj_W Γ (mj_push S e) H1 := by
  obtain ⟨h1, h2, h3, h4, h5⟩ := h
  refine ⟨by rw [hz, h1]; rfl, Nat.succ_le_succ h2, hst, fun i q hk => ?_, fun i hi => ?_⟩
  · obtain ⟨hk1, rfl⟩ := mj_ws_inv hk
    have hk1 : i < S.2.1 + 1 := hk1
    by_cases e1 : i = S.2.1
    · subst e1
      show va_at Γ.D mj_cl (_, mj_e Γ (va_up S.1 S.2.1 e S.2.1)) H1
      rw [va_up_self]
      exact he
    · show va_at Γ.D mj_cl (_, mj_e Γ (va_up S.1 S.2.1 e i)) H1
      rw [va_up_ne _ _ e1]
      have h6 := h4 i _ (mj_ws_at (by omega))
      exact h6.kept (hq _ h6.lt)
  · show va_up S.1 S.2.1 e (mj_st + i) = _
    rw [va_up_ne _ _ (by omega)]
    exact h5 i hi
theorem mj_S_push {H0 H H1 : Heap} {locs : List Loc} (hS : va_S (mj_A Γ) H0 H locs) (hz : H1.size = H.size + 1) (hq : ∀ q : Nat, q < H.size → H1[q]? = H[q]?) : va_S (mj_A Γ) H0 H1 locs :=
  ⟨Nat.le_trans hS.1 (by omega), fun x h1 h2 => (hq x (Nat.lt_of_lt_of_le h1 hS.1)).trans (hS.2.1 x h1 h2), hS.2.2⟩
theorem mj_new {idx ci : Nat} {q : vw_C} {fs : List Value} (hd : decode M.cc pc = .ok (.new idx, 3)) (hq : mj_cl[ci]? = some q) (hw1 : (Cond.classLink M.own idx q.1) ∈ mj_tb) (hw2 : (Cond.instantiable q.1 q.2.2) ∈ mj_tb) (hw3 : (Cond.initialized q.1) ∈ mj_tb)
    (hfs : ∀ j, j < q.2.2 → defaultValue (mj_t ci j) = vp_V fs j) (hnr : fs.all (fun v => match v with | .ref _ => false | _ => true) = true) (hex : S.2.1 = S.2.2) (hst : S.2.1 < mj_st)
    (h : mj_Ok Γ d M k n (pc + 3) lv (.ref S.2.1 :: st) (mj_push S (.inr (ci, fs))) P) : mj_Ok Γ d M (k + 1) (n + q.2.2) pc lv st S P := by
  intro p e R s m args below meth c H locs cells slots ls hX hS hW hL hN9
  have hC := hX.2.2.2.2.2.2.1
  have hts := hC.w args
  obtain ⟨x1, x2, x3, x4, x5, x6, x7, x8, x9, x10, x11, x12⟩ := hX
  obtain ⟨C, T, N⟩ := q
  have hKn := hC.K.1 ci _ hq
  have x11 : slots + (n + N) ≤ R.slots := x11
  have hmap : fs.map (mj_v Γ) = fs := by
    have : fs.map (mj_v Γ) = fs.map id := List.map_congr_left fun v hv => by
      have := List.all_eq_true.mp hnr v hv
      cases v <;> first | rfl | simp at this
    rw [this, List.map_id]
  refine W.newcK x1 x2 x6 (hts _ hw1) (hts _ hw2) (hts _ hw3) rfl hd (by omega) (by omega) hKn.2.1 rfl fun H1 kC hkC e1 z1 o1 => ?_
  have w := h p e R s m args below meth c H1 locs (cells + 1) (slots + N) ls ⟨x1, x2, x3, x4, x5, x6, x7, x8, x9, by omega, by omega, x12⟩ (mj_S_push hS z1 o1) (hW.push hex hst ?_ z1 o1) hL hN9
  · rw [show cells + 1 + k = cells + (k + 1) by omega, show slots + N + n = slots + (n + N) by omega] at w
    have e2 : mj_v Γ (.ref S.2.1) = .ref H.size := congrArg Value.ref (by rw [mj_ad_lt hst, hW.1, ← hex])
    rw [mj_map_cons, e2] at w
    exact w
  · have e3 : mj_ad Γ S.2.1 = H.size := by rw [mj_ad_lt hst, hW.1, ← hex]
    rw [e3]
    refine ⟨_, hq, ?_⟩
    show t_OB H.size _ N _ H1 (vp_V (fs.map (mj_v Γ)))
    rw [hmap]
    exact (u_born (mj_t ci) hts (mj_in ci _ hq) hKn hkC e1 (mj_ty ci _ hq)).to hfs
theorem mj_newa {atype : ArrayType} {t N : Nat} {i : Int32} {a0 : vp_A} (hd : decode M.cc pc = .ok (.newarray atype, 2)) (hty : newarray.typeOf atype = mj_at t) (ht : (mj_tys Γ)[t]? = some (Γ.cA t, mj_at t)) (hw : (Cond.arrayClass (mj_at t)) ∈ mj_tb) (hi : i = nI N) (hN : N < 100000) (hb : N * componentBytes (mj_at t) ≤ 536870912)
    (ha : ∀ cA : ClassId, vp_cell cA a0 = arrV cA N (fun _ => defaultValue (mj_at t))) (hex : S.2.1 = S.2.2) (hst : S.2.1 < mj_st)
    (h : mj_Ok Γ d M k n (pc + 2) lv (.ref S.2.1 :: st) (mj_push S (.inl (t, a0))) P) : mj_Ok Γ d M (k + 1) (n + N) pc lv (.int i :: st) S P := by
  subst hi
  intro p e R s m args below meth c H locs cells slots ls hX hS hW hL hN9
  have hC := hX.2.2.2.2.2.2.1
  have hts := hC.w args
  obtain ⟨x1, x2, x3, x4, x5, x6, x7, x8, x9, x10, x11, x12⟩ := hX
  refine va_newaK x1 x2 (by rw [hty]; exact hts _ hw) rfl hd rfl (nI_pos (by omega)) (nI_clamp (n := N) (by omega)) (by rw [hty]; exact hb) (by omega) (by omega) rfl fun H1 cA e1 z1 o1 hAr hNm => ?_
  rw [hty] at e1 hAr hNm
  have hcA : cA = Γ.cA t := by
    have h2 := (hC.K.2 t _ ht).2
    have h3 : s.vm.findClass ("[" ++ (mj_at t).toString) = some (Γ.cA t) := by
      unfold mj_at at h2 ⊢
      split at h2 <;> exact h2
    exact Option.some.inj (hNm.symm.trans h3)
  subst hcA
  have w := h p e R s m args below meth c H1 locs (cells + 1) (slots + N) ls ⟨x1, x2, x3, x4, x5, x6, x7, x8, x9, by omega, by omega, x12⟩ (mj_S_push hS z1 o1) (hW.push hex hst ?_ z1 o1) hL hN9
  · rw [show cells + 1 + k = cells + (k + 1) by omega, show slots + N + n = slots + (n + N) by omega] at w
    have e2 : mj_v Γ (.ref S.2.1) = .ref H.size := congrArg Value.ref (by rw [mj_ad_lt hst, hW.1, ← hex])
    rw [mj_map_cons, e2] at w
    exact w
  · have e3 : mj_ad Γ S.2.1 = H.size := by rw [mj_ad_lt hst, hW.1, ← hex]
    rw [e3]
    show H1[H.size]? = some (vp_cell _ _)
    rw [ha]
    exact e1
end MJ6
