/-! the line of characters (ids 1, 2); the tables of signs; Math, Arrays.fill -/
def mj_FST : Nat → Int := fun j => ([67, 78, 79, 83, 80, 70, 67, 66, 73, 72] : List Int).getD j 0
def mj_SND : Nat → Int := fun j => ([0, 0, 0, 0, 0, 0, 108, 114, 0, 0] : List Int).getD j 0
def mj_VAL : Nat → Int := fun j => ([4, 3, 2, 2, 3, 1, 1, 1, 1, 1] : List Int).getD j 0
def mj_tab (Γ : mj_G) : Prop := Γ.ro 0 = (10, .inl (mj_z mj_VAL)) ∧ Γ.ro 1 = (10, .inl (mj_z mj_FST)) ∧ Γ.ro 2 = (10, .inl (mj_z mj_SND))
theorem mj_FST_r (j : Nat) : 0 ≤ mj_FST j ∧ mj_FST j < 128 := by
  by_cases h : j < 10
  · have : ∀ i, i < 10 → 0 ≤ mj_FST i ∧ mj_FST i < 128 := by decide
    exact this j h
  · unfold mj_FST
    rw [List.getD_eq_getElem?_getD, List.getElem?_eq_none (by simp; omega)]
    decide
theorem mj_SND_r (j : Nat) : 0 ≤ mj_SND j ∧ mj_SND j < 128 := by
  by_cases h : j < 10
  · have : ∀ i, i < 10 → 0 ≤ mj_SND i ∧ mj_SND i < 128 := by decide
    exact this j h
  · unfold mj_SND
    rw [List.getD_eq_getElem?_getD, List.getElem?_eq_none (by simp; omega)]
    decide
/-- the line's cells -/
def mj_ln (S : mj_S) (n : Nat) (C : Nat → Int) : Prop := S.1 1 = .inr (1, [.ref 2, .int (iZ n)]) ∧ S.1 2 = .inl (1, 60, .inl (mj_z C)) ∧ n ≤ 60 ∧ ∀ j, 0 ≤ C j ∧ C j < 65536
def ln_at (n : Nat) (C : Nat → Int) (k : Int) : Int := if 0 ≤ k ∧ k < n then C k.toNat else 32
theorem ln_at_r {n : Nat} {C : Nat → Int} (hC : ∀ j, 0 ≤ C j ∧ C j < 65536) (k : Int) : 0 ≤ ln_at n C k ∧ ln_at n C k < 65536 := by
  unfold ln_at
  split
  · exact hC _
  · decide
section LN
variable {Γ : mj_G} {d n : Nat} {S : mj_S} {C : Nat → Int}
theorem mz_mmax {M : mj_M} {k n pc idx : Nat} {lv st : List Value} {P : mj_O → mj_S → Prop} {x y : Int} (hd : decode M.cc pc = .ok (.invokestatic idx, 3)) (hw : Cond.methodLink M.own idx y_Ma_max ∈ mj_tb ∧ Cond.static y_Ma_max ∈ mj_tb) (hd0 : 0 < d) (hst : Nat.ble (st.map fun v => v.category).sum 8 = true) (hx : iR x) (hy : iR y)
    (h : mj_Ok Γ d M k n (pc + 3) lv (.int (iZ (max x y)) :: st) S P) : mj_Ok Γ d M k n pc lv (.int (iZ y) :: .int (iZ x) :: st) S P := by
  intro p e R s m args below meth c H locs cells slots ls hX hS hW hL hN
  have hX0 := hX
  obtain ⟨x1, x2, x3, x4, x5, x6, x7, x8, x9, x10, x11, x12⟩ := hX
  have hts := x7.w args
  have h8 : ((st.map (mj_v Γ)).map fun v => v.category).sum ≤ 8 := by
    have : (st.map (mj_v Γ)).map (fun v => v.category) = st.map (fun v => v.category) := by simp [mj_v_cat]
    rw [this]
    exact Nat.le_of_ble_eq_true hst
  have kk := h p e R s m args below meth c H locs cells slots ls hX0 hS hW hL hN
  have e1 : iZ (max x y) = if iZ x < iZ y then iZ y else iZ x := by
    by_cases q : x < y
    · rw [if_pos ((iZ_lt hx hy).mpr q), Int.max_eq_right (by omega)]
    · rw [if_neg (fun z => q ((iZ_lt hx hy).mp z)), Int.max_eq_left (by omega)]
  rw [mj_map_cons, show mj_v Γ (.int (iZ (max x y))) = .int (if iZ x < iZ y then iZ y else iZ x) from congrArg Value.int e1] at kk
  exact va_mmax x1 x2 (x5.trans (hL.1.trans hN).symm) x6 (hts _ hw.1) (hts _ hw.2) (hts _ ini_Ma) (hts _ cw_Ma_max.1) (by omega) (by omega) (by omega) (by omega) hd kk
theorem mz_mmin {M : mj_M} {k n pc idx : Nat} {lv st : List Value} {P : mj_O → mj_S → Prop} {x y : Int} (hd : decode M.cc pc = .ok (.invokestatic idx, 3)) (hw : Cond.methodLink M.own idx y_Ma_min ∈ mj_tb ∧ Cond.static y_Ma_min ∈ mj_tb) (hd0 : 0 < d) (hst : Nat.ble (st.map fun v => v.category).sum 8 = true) (hx : iR x) (hy : iR y)
    (h : mj_Ok Γ d M k n (pc + 3) lv (.int (iZ (min x y)) :: st) S P) : mj_Ok Γ d M k n pc lv (.int (iZ y) :: .int (iZ x) :: st) S P := by
  intro p e R s m args below meth c H locs cells slots ls hX hS hW hL hN
  have hX0 := hX
  obtain ⟨x1, x2, x3, x4, x5, x6, x7, x8, x9, x10, x11, x12⟩ := hX
  have hts := x7.w args
  have h8 : ((st.map (mj_v Γ)).map fun v => v.category).sum ≤ 8 := by
    have : (st.map (mj_v Γ)).map (fun v => v.category) = st.map (fun v => v.category) := by simp [mj_v_cat]
    rw [this]
    exact Nat.le_of_ble_eq_true hst
  have kk := h p e R s m args below meth c H locs cells slots ls hX0 hS hW hL hN
  have e1 : iZ (min x y) = if iZ y < iZ x then iZ y else iZ x := by
    by_cases q : y < x
    · rw [if_pos ((iZ_lt hy hx).mpr q), Int.min_eq_right (by omega)]
    · rw [if_neg (fun z => q ((iZ_lt hy hx).mp z)), Int.min_eq_left (by omega)]
  rw [mj_map_cons, show mj_v Γ (.int (iZ (min x y))) = .int (if iZ y < iZ x then iZ y else iZ x) from congrArg Value.int e1] at kk
  exact va_mmin x1 x2 (x5.trans (hL.1.trans hN).symm) x6 (hts _ hw.1) (hts _ hw.2) (hts _ ini_Ma) (hts _ cw_Ma_min.1) (by omega) (by omega) (by omega) (by omega) hd kk
/-- filled up to i -/
def mj_fl (A : Nat → Int) (v : Int) (i : Nat) : Nat → Int := fun j => if j < i then v else A j
theorem mj_fl_up (A : Nat → Int) (v : Int) (i : Nat) : va_up (mj_fl A v i) i v = mj_fl A v (i + 1) := by
  funext j
  by_cases h : j = i
  · subst h; simp [mj_fl, va_up]
  · by_cases h2 : j < i
    · simp [mj_fl, va_up, h, h2, Nat.lt_succ_of_lt h2]
    · simp [mj_fl, va_up, h, h2, show ¬ j < i + 1 by omega]
theorem m_Ar_fill {a N : Nat} {A : Nat → Int} {v : Int} (ha : a < S.2.1) (he : S.1 a = .inl (0, N, .inl (mj_z A))) (hN : N < 100000) : mj_Met Γ d y_Ar_fill M_Ar_fill [.ref a, .int (iZ v)] S 0 0 (mj_V fun S' => mj_fr S S' [a] ∧ S'.1 a = .inl (0, N, .inl (mj_z (mj_fl A v N)))) := by
  refine mj_Met.of (by decide) ⟨rfl, rfl⟩ rfl rfl rfl ?_
  refine mz_iconst d_Ar_fill_0 ?_
  refine mz_ist2 d_Ar_fill_1 (rfl) ?_
  refine mj_aload_n d_Ar_fill_2 rfl ?_
  refine mj_alen d_Ar_fill_3 ha he rfl ?_
  refine mz_ist3 d_Ar_fill_4 (rfl) ?_
  have loop : ∀ (m i : Nat) (S1 : mj_S), i + m = N → mj_fr S S1 [a] → S1.1 a = .inl (0, N, .inl (mj_z (mj_fl A v i))) → mj_Ok Γ d M_Ar_fill 0 0 5 [.ref a, .int (iZ v), .int (iZ (i : Int)), .int (iZ (N : Int))] [] S1 (mj_V fun S' => mj_fr S S' [a] ∧ S'.1 a = .inl (0, N, .inl (mj_z (mj_fl A v N)))) := by
    intro m
    induction m with
    | zero =>
      intro i S1 hi hf h1
      refine mj_iload_n d_Ar_fill_5 rfl ?_
      refine mj_iload_n d_Ar_fill_6 rfl ?_
      refine mz_icmp_ge 20 d_Ar_fill_7 (by decide) (by omega) (by omega) (fun c_7 => ?_) (fun c_7 => ?_)
      · refine mz_vret d_Ar_fill_20 rfl ?_
        rw [show i = N by omega] at h1
        exact ⟨hf, h1⟩
      · omega
    | succ m ih =>
      intro i S1 hi hf h1
      have hw := hf.w
      refine mj_iload_n d_Ar_fill_5 rfl ?_
      refine mj_iload_n d_Ar_fill_6 rfl ?_
      refine mz_icmp_ge 20 d_Ar_fill_7 (by decide) (by omega) (by omega) (fun c_7 => ?_) (fun c_7 => ?_)
      · omega
      · refine mj_aload_n d_Ar_fill_10 rfl ?_
        refine mj_iload_n d_Ar_fill_11 rfl ?_
        refine mj_iload_n d_Ar_fill_12 rfl ?_
        refine mz_iast d_Ar_fill_13 (by omega) (by assumption) (rfl) (by omega) (fun S_13 w_13 e_13 f_13 => ?_) (by omega)
        refine mz_inc2 d_Ar_fill_14 (rfl) ?_
        refine mj_goto 5 d_Ar_fill_17 (by decide) ?_
        exact ih (i + 1) S_13 (by omega) (hf.tr f_13 (by simp) (by simp)) (by rw [e_13, mj_fl_up])
  exact loop N 0 S (by omega) (mj_fr.rf _ _) (by rw [he]; congr 3)
theorem m_Ln_at (hw : S.2.1 = 65) (h : mj_ln S n C) {k : Int} (hk : iR k) : mj_Met Γ d y_Ln_at M_Ln_at [.ref 1, .int (iZ k)] S 0 0 (mj_I fun z S' => S' = S ∧ z = ln_at n C k) := by
  obtain ⟨h1, h2, h3, h4⟩ := h
  refine mj_Met.of (by decide) ⟨rfl, rfl⟩ rfl rfl rfl ?_
  refine mj_iload_n d_Ln_at_0 rfl ?_
  refine mz_if_lt 21 d_Ln_at_1 (by decide) (by omega) (fun c_1 => ?_) (fun c_1 => ?_)
  · refine mz_bipush d_Ln_at_21 (by decide) ?_
    refine mz_iret d_Ln_at_23 rfl (mj_narC (by decide) (by decide)) ?_
    exact ⟨rfl, by unfold ln_at; rw [if_neg (by omega)]⟩
  · refine mj_iload_n d_Ln_at_4 rfl ?_
    refine mj_aload_n d_Ln_at_5 rfl ?_
    refine mj_get (ci := 1) (j := 1) d_Ln_at_6 rfl w_Ln_15 (by decide) (by omega) (by assumption) rfl ?_
    refine mz_icmp_ge 21 d_Ln_at_9 (by decide) (by omega) (by omega) (fun c_9 => ?_) (fun c_9 => ?_)
    · refine mz_bipush d_Ln_at_21 (by decide) ?_
      refine mz_iret d_Ln_at_23 rfl (mj_narC (by decide) (by decide)) ?_
      exact ⟨rfl, by unfold ln_at; rw [if_neg (by omega)]⟩
    · refine mj_aload_n d_Ln_at_12 rfl ?_
      refine mj_get (ci := 1) (j := 0) d_Ln_at_13 rfl w_Ln_9 (by decide) (by omega) (by assumption) rfl ?_
      refine mj_iload_n d_Ln_at_16 rfl ?_
      refine mz_cald (j := k.toNat) d_Ln_at_17 (by omega) (by assumption) (by omega) (by omega) ?_
      refine mj_goto 23 d_Ln_at_18 (by decide) ?_
      refine mz_iret d_Ln_at_23 rfl (mj_narC (h4 _).1 (h4 _).2) ?_
      exact ⟨rfl, by unfold ln_at; rw [if_pos (by omega)]⟩
theorem m_Ln_clear (hw : S.2.1 = 65) (h : mj_ln S n C) : mj_Met Γ d y_Ln_clear M_Ln_clear [.ref 1] S 0 0 (mj_V fun S' => mj_fr S S' [1] ∧ mj_ln S' 0 C) := by
  obtain ⟨h1, h2, h3, h4⟩ := h
  refine mj_Met.of (by decide) ⟨rfl, rfl⟩ rfl rfl rfl ?_
  refine mj_aload_n d_Ln_clear_0 rfl ?_
  refine mz_iconst d_Ln_clear_1 ?_
  refine mz_put (ci := 1) (j := 1) d_Ln_clear_2 rfl w_Ln_15 (by decide) rfl (by omega) (by assumption) (Nat.le_of_ble_eq_true rfl) (mj_fit_int _) rfl (fun S_2 w_2 e_2 f_2 => ?_)
  refine mz_vret d_Ln_clear_5 rfl ?_
  exact ⟨f_2, e_2, f_2.at h2 (by decide), by decide, h4⟩
theorem m_Ln_add (hw : S.2.1 = 65) (h : mj_ln S n C) {c : Int} (hc : 0 ≤ c ∧ c < 65536) : mj_Met Γ d y_Ln_add M_Ln_add [.ref 1, .int (iZ c)] S 0 0 (mj_V fun S' => mj_fr S S' [1, 2] ∧ if n < 60 then mj_ln S' (n + 1) (va_up C n c) else mj_ln S' n C) := by
  obtain ⟨h1, h2, h3, h4⟩ := h
  refine mj_Met.of (by decide) ⟨rfl, rfl⟩ rfl rfl rfl ?_
  refine mj_aload_n d_Ln_add_0 rfl ?_
  refine mj_get (ci := 1) (j := 1) d_Ln_add_1 rfl w_Ln_15 (by decide) (by omega) (by assumption) rfl ?_
  refine mz_bipush d_Ln_add_4 (by decide) ?_
  refine mz_icmp_ge 29 d_Ln_add_6 (by decide) (by omega) (by omega) (fun c_6 => ?_) (fun c_6 => ?_)
  · refine mz_vret d_Ln_add_29 rfl ?_
    rw [if_neg (by omega)]
    exact ⟨mj_fr.rf _ _, h1, h2, h3, h4⟩
  · refine mj_aload_n d_Ln_add_9 rfl ?_
    refine mj_get (ci := 1) (j := 0) d_Ln_add_10 rfl w_Ln_9 (by decide) (by omega) (by assumption) rfl ?_
    refine mj_aload_n d_Ln_add_13 rfl ?_
    refine mj_get (ci := 1) (j := 1) d_Ln_add_14 rfl w_Ln_15 (by decide) (by omega) (by assumption) rfl ?_
    refine mj_iload_n d_Ln_add_17 rfl ?_
    refine mz_cast d_Ln_add_18 (by omega) (by assumption) (rfl) (by omega) (mj_narC hc.1 hc.2) (fun S_18 w_18 e_18 f_18 => ?_)
    have h1 := f_18.at h1 (by simp; try omega)
    refine mj_aload_n d_Ln_add_19 rfl ?_
    refine mj_dup d_Ln_add_20 rfl ?_
    refine mj_get (ci := 1) (j := 1) d_Ln_add_21 rfl w_Ln_15 (by decide) (by omega) (by assumption) rfl ?_
    refine mz_iconst d_Ln_add_24 ?_
    refine mz_iadd d_Ln_add_25 ?_
    refine mz_put (ci := 1) (j := 1) d_Ln_add_26 rfl w_Ln_15 (by decide) rfl (by omega) (by assumption) (Nat.le_of_ble_eq_true rfl) (mj_fit_int _) rfl (fun S_26 w_26 e_26 f_26 => ?_)
    refine mz_vret d_Ln_add_29 rfl ?_
    rw [if_pos (by omega)]
    refine ⟨f_18.tr f_26 (by simp) (by simp), e_26, f_26.at e_18 (by decide), by omega, fun j => ?_⟩
    by_cases e : j = n
    · subst e; rw [va_up_self]; exact hc
    · rw [va_up_ne _ _ e]; exact h4 j
/-- which element's sign begins with c, d -/
def elS (c d : Int) : Nat → Int → Int
  | 0, f => f
  | m + 1, f => if mj_FST (9 - m) = c then (if mj_SND (9 - m) = 0 then elS c d m ((9 - m : Nat) : Int) else if mj_SND (9 - m) = d then ((9 - m : Nat) : Int) else elS c d m f) else elS c d m f
theorem elS_r (c d : Int) : ∀ (m : Nat) (f : Int), -1 ≤ f ∧ f ≤ 9 → -1 ≤ elS c d m f ∧ elS c d m f ≤ 9 := by
  intro m
  induction m with
  | zero => intro f h; exact h
  | succ m ih =>
    intro f h
    unfold elS
    split
    · split
      · exact ih _ (by omega)
      · split
        · omega
        · exact ih _ h
    · exact ih _ h
def ln_el (n : Nat) (C : Nat → Int) (k : Int) : Int := elS (ln_at n C k) (ln_at n C (k + 1)) 10 (-1)
theorem m_Ln_elementAt (hT : mj_tab Γ) (hw : S.2.1 = 65) (h : mj_ln S n C) (hd : 1 ≤ d) {k : Int} (hk : -1000 ≤ k ∧ k ≤ 1000) : mj_Met Γ d y_Ln_elementAt M_Ln_elementAt [.ref 1, .int (iZ k)] S 0 0 (mj_I fun z S' => S' = S ∧ z = ln_el n C k) := by
  have hh := h
  obtain ⟨h1, h2, h3, h4⟩ := h
  refine mj_Met.of (by decide) ⟨rfl, rfl⟩ rfl rfl rfl ?_
  refine mz_iconst d_Ln_elementAt_0 ?_
  refine mz_ist2 d_Ln_elementAt_1 (rfl) ?_
  refine mz_iconst d_Ln_elementAt_2 ?_
  refine mz_ist3 d_Ln_elementAt_3 (rfl) ?_
  have loop : ∀ (m : Nat) (f : Int), m ≤ 10 → -1 ≤ f ∧ f ≤ 9 → mj_Ok Γ d M_Ln_elementAt 0 0 4 [.ref 1, .int (iZ k), .int (iZ f), .int (iZ ((10 - m : Nat) : Int))] [] S (mj_I fun z S' => S' = S ∧ z = elS (ln_at n C k) (ln_at n C (k + 1)) m f) := by
    intro m
    induction m with
    | zero =>
      intro f hm hf
      refine mj_iload_n d_Ln_elementAt_4 rfl ?_
      refine mz_bipush d_Ln_elementAt_5 (by decide) ?_
      refine mz_icmp_ge 59 d_Ln_elementAt_7 (by decide) (by omega) (by omega) (fun c_7 => ?_) (fun c_7 => ?_)
      · refine mj_iload_n d_Ln_elementAt_59 rfl ?_
        refine mz_iret d_Ln_elementAt_60 rfl (rfl) ?_
        exact ⟨rfl, rfl⟩
      · omega
    | succ m ih =>
      intro f hm hf
      have e9 : 10 - (m + 1) = 9 - m := by omega
      have r1 := mj_FST_r (9 - m)
      have r2 := mj_SND_r (9 - m)
      have r3 := ln_at_r h4 (n := n) k
      have r4 := ln_at_r h4 (n := n) (k + 1)
      rw [e9]
      refine mj_iload_n d_Ln_elementAt_4 rfl ?_
      refine mz_bipush d_Ln_elementAt_5 (by decide) ?_
      refine mz_icmp_ge 59 d_Ln_elementAt_7 (by decide) (by omega) (by omega) (fun c_7 => ?_) (fun c_7 => ?_)
      · omega
      · refine mj_gets (r := 1) d_Ln_elementAt_10 (by decide) w_Ln_19 ?_
        refine mj_iload_n d_Ln_elementAt_13 rfl ?_
        refine mz_crot d_Ln_elementAt_14 (by decide) rfl (hT.2.1) (rfl) (by omega) ?_
        refine mj_aload_n d_Ln_elementAt_15 rfl ?_
        refine mj_iload_n d_Ln_elementAt_16 rfl ?_
        refine mz_callV1i (ci := 1) d_Ln_elementAt_17 (m_Ln_at (d := 0) hw hh (by omega)) cw_Ln_at lk_Ln_22 rfl rfl (by omega) (by assumption) (by omega) rfl (fun z_17 S_17 h_17 => ?_)
        refine mz_icmp_ne 53 d_Ln_elementAt_20 (by decide) (by omega) (by omega) (fun c_20 => ?_) (fun c_20 => ?_)
        · obtain ⟨rfl, rfl⟩ := h_17
          refine mz_inc3 d_Ln_elementAt_53 (rfl) ?_
          refine mj_goto 4 d_Ln_elementAt_56 (by decide) ?_
          unfold elS
          rw [if_neg c_20]
          have q := ih f (by omega) hf
          rw [show (10 - m : Nat) = 9 - m + 1 by omega] at q
          exact q
        · obtain ⟨rfl, rfl⟩ := h_17
          refine mj_gets (r := 2) d_Ln_elementAt_23 (by decide) w_Ln_26 ?_
          refine mj_iload_n d_Ln_elementAt_26 rfl ?_
          refine mz_crot d_Ln_elementAt_27 (by decide) rfl (hT.2.2) (rfl) (by omega) ?_
          refine mz_if_ne 36 d_Ln_elementAt_28 (by decide) (by omega) (fun c_28 => ?_) (fun c_28 => ?_)
          · refine mj_gets (r := 2) d_Ln_elementAt_36 (by decide) w_Ln_26 ?_
            refine mj_iload_n d_Ln_elementAt_39 rfl ?_
            refine mz_crot d_Ln_elementAt_40 (by decide) rfl (hT.2.2) (rfl) (by omega) ?_
            refine mj_aload_n d_Ln_elementAt_41 rfl ?_
            refine mj_iload_n d_Ln_elementAt_42 rfl ?_
            refine mz_iconst d_Ln_elementAt_43 ?_
            refine mz_iadd d_Ln_elementAt_44 ?_
            refine mz_callV1i (ci := 1) d_Ln_elementAt_45 (m_Ln_at (d := 0) hw hh (by omega)) cw_Ln_at lk_Ln_22 rfl rfl (by omega) (by assumption) (by omega) rfl (fun z_45 S_45 h_45 => ?_)
            refine mz_icmp_ne 53 d_Ln_elementAt_48 (by decide) (by omega) (by omega) (fun c_48 => ?_) (fun c_48 => ?_)
            · obtain ⟨rfl, rfl⟩ := h_45
              refine mz_inc3 d_Ln_elementAt_53 (rfl) ?_
              refine mj_goto 4 d_Ln_elementAt_56 (by decide) ?_
              unfold elS
              rw [if_pos c_20, if_neg c_28, if_neg c_48]
              have q := ih f (by omega) hf
              rw [show (10 - m : Nat) = 9 - m + 1 by omega] at q
              exact q
            · obtain ⟨rfl, rfl⟩ := h_45
              refine mj_iload_n d_Ln_elementAt_51 rfl ?_
              refine mz_iret d_Ln_elementAt_52 rfl (rfl) ?_
              unfold elS
              rw [if_pos c_20, if_neg c_28, if_pos c_48]
              exact ⟨rfl, rfl⟩
          · refine mj_iload_n d_Ln_elementAt_31 rfl ?_
            refine mz_ist2 d_Ln_elementAt_32 (rfl) ?_
            refine mj_goto 53 d_Ln_elementAt_33 (by decide) ?_
            refine mz_inc3 d_Ln_elementAt_53 (rfl) ?_
            refine mj_goto 4 d_Ln_elementAt_56 (by decide) ?_
            unfold elS
            rw [if_pos c_20, if_pos c_28]
            have q := ih ((9 - m : Nat) : Int) (by omega) (by omega)
            rw [show (10 - m : Nat) = 9 - m + 1 by omega] at q
            exact q
  exact loop 10 (-1) (by omega) (by omega)
theorem m_Ln_addElement (hT : mj_tab Γ) (hw : S.2.1 = 65) (h : mj_ln S n C) (hd : 1 ≤ d) {k : Nat} (hk : k < 10) (hn : n < 59) : mj_Met Γ d y_Ln_addElement M_Ln_addElement [.ref 1, .int (iZ k)] S 0 0 (mj_V fun S' => mj_fr S S' [1, 2] ∧ if mj_SND k = 0 then mj_ln S' (n + 1) (va_up C n (mj_FST k)) else mj_ln S' (n + 2) (va_up (va_up C n (mj_FST k)) (n + 1) (mj_SND k))) := by
  have hh := h
  obtain ⟨h1, h2, h3, h4⟩ := h
  have r1 := mj_FST_r k
  have r2 := mj_SND_r k
  refine mj_Met.of (by decide) ⟨rfl, rfl⟩ rfl rfl rfl ?_
  refine mj_aload_n d_Ln_addElement_0 rfl ?_
  refine mj_gets (r := 1) d_Ln_addElement_1 (by decide) w_Ln_19 ?_
  refine mj_iload_n d_Ln_addElement_4 rfl ?_
  refine mz_crot d_Ln_addElement_5 (by decide) rfl (hT.2.1) (rfl) (by omega) ?_
  refine mz_callV1v (ci := 1) d_Ln_addElement_6 (m_Ln_add (d := 0) hw hh (by omega)) cw_Ln_add lk_Ln_29 rfl rfl (by omega) (by assumption) (by omega) rfl (fun S_6 h_6 => ?_)
  refine mj_gets (r := 2) d_Ln_addElement_9 (by decide) w_Ln_26 ?_
  refine mj_iload_n d_Ln_addElement_12 rfl ?_
  refine mz_crot d_Ln_addElement_13 (by decide) rfl (hT.2.2) (rfl) (by omega) ?_
  refine mz_if_eq 26 d_Ln_addElement_14 (by decide) (by omega) (fun c_14 => ?_) (fun c_14 => ?_)
  · obtain ⟨f1, h6⟩ := h_6
    rw [if_pos (by omega)] at h6
    refine mz_vret d_Ln_addElement_26 rfl ?_
    rw [if_pos c_14]
    exact ⟨f1, h6⟩
  · obtain ⟨f1, h6⟩ := h_6
    rw [if_pos (by omega)] at h6
    have hw6 : S_6.2.1 = 65 := f1.w.trans hw
    have h61 := h6.1
    refine mj_aload_n d_Ln_addElement_17 rfl ?_
    refine mj_gets (r := 2) d_Ln_addElement_18 (by decide) w_Ln_26 ?_
    refine mj_iload_n d_Ln_addElement_21 rfl ?_
    refine mz_crot d_Ln_addElement_22 (by decide) rfl (hT.2.2) (rfl) (by omega) ?_
    refine mz_callV1v (ci := 1) d_Ln_addElement_23 (m_Ln_add (d := 0) hw6 h6 (by omega)) cw_Ln_add lk_Ln_29 rfl rfl (by omega) (by assumption) (by omega) rfl (fun S_23 h_23 => ?_)
    refine mz_vret d_Ln_addElement_26 rfl ?_
    obtain ⟨f2, h7⟩ := h_23
    rw [if_pos (by omega)] at h7
    rw [if_neg c_14]
    exact ⟨f1.tr f2 (by simp) (by simp), h7⟩
theorem m_Ln_addBond (hw : S.2.1 = 65) (h : mj_ln S n C) (hd : 1 ≤ d) {b : Int} (hb : 0 ≤ b ∧ b ≤ 100) (hn : n < 60) : mj_Met Γ d y_Ln_addBond M_Ln_addBond [.ref 1, .int (iZ b)] S 0 0 (mj_V fun S' => mj_fr S S' [1, 2] ∧ if b = 2 then mj_ln S' (n + 1) (va_up C n 61) else if b = 3 then mj_ln S' (n + 1) (va_up C n 35) else mj_ln S' n C) := by
  have hh := h
  obtain ⟨h1, h2, h3, h4⟩ := h
  refine mj_Met.of (by decide) ⟨rfl, rfl⟩ rfl rfl rfl ?_
  refine mj_iload_n d_Ln_addBond_0 rfl ?_
  refine mz_iconst d_Ln_addBond_1 ?_
  refine mz_icmp_ne 14 d_Ln_addBond_2 (by decide) (by omega) (by omega) (fun c_2 => ?_) (fun c_2 => ?_)
  · refine mj_iload_n d_Ln_addBond_14 rfl ?_
    refine mz_iconst d_Ln_addBond_15 ?_
    refine mz_icmp_ne 25 d_Ln_addBond_16 (by decide) (by omega) (by omega) (fun c_16 => ?_) (fun c_16 => ?_)
    · refine mz_vret d_Ln_addBond_25 rfl ?_
      rw [if_neg c_2, if_neg c_16]
      exact ⟨mj_fr.rf _ _, hh⟩
    · refine mj_aload_n d_Ln_addBond_19 rfl ?_
      refine mz_bipush d_Ln_addBond_20 (by decide) ?_
      refine mz_callV1v (ci := 1) d_Ln_addBond_22 (m_Ln_add (d := 0) hw hh (by omega)) cw_Ln_add lk_Ln_29 rfl rfl (by omega) (by assumption) (by omega) rfl (fun S_22 h_22 => ?_)
      refine mz_vret d_Ln_addBond_25 rfl ?_
      rw [if_neg c_2, if_pos c_16]
      obtain ⟨f1, h6⟩ := h_22
      rw [if_pos hn] at h6
      exact ⟨f1, h6⟩
  · refine mj_aload_n d_Ln_addBond_5 rfl ?_
    refine mz_bipush d_Ln_addBond_6 (by decide) ?_
    refine mz_callV1v (ci := 1) d_Ln_addBond_8 (m_Ln_add (d := 0) hw hh (by omega)) cw_Ln_add lk_Ln_29 rfl rfl (by omega) (by assumption) (by omega) rfl (fun S_8 h_8 => ?_)
    refine mj_goto 25 d_Ln_addBond_11 (by decide) ?_
    refine mz_vret d_Ln_addBond_25 rfl ?_
    rw [if_pos c_2]
    obtain ⟨f1, h6⟩ := h_8
    rw [if_pos hn] at h6
    exact ⟨f1, h6⟩
end LN
