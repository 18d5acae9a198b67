/-! the reference: its object, its leaves -/
def mo_st (S : mj_S) (rf sz wr am hy sr tr rs fo sg : Int) : Prop := S.1 40 = .inr (9, [.int (iZ rf), .int (iZ sz), .ref 41, .int (iZ wr), .int (iZ am), .int (iZ hy), .ref 42, .int (iZ sr), .ref 43, .int (iZ tr), .ref 44, .ref 45, .ref 46, .int (iZ rs), .ref 47, .int (iZ fo), .ref 48, .ref 49, .ref 50, .int (iZ sg), .ref 51, .ref 52, .ref 53, .ref 54, .ref 55, .ref 56, .ref 57, .ref 58, .ref 59, .ref 60, .ref 61, .ref 62, .ref 63])
def mj_lc (S : mj_S) (C : Nat → Int) : Prop := S.1 41 = .inl (1, 60, .inl (mj_z C)) ∧ ∀ j, 0 ≤ C j ∧ C j < 65536
def mo_at (n : Nat) (C : Nat → Int) (k : Int) : Int := if 0 ≤ k ∧ k < n then C k.toNat else 0
theorem mo_at_r {n : Nat} {C : Nat → Int} (hC : ∀ j, 0 ≤ C j ∧ C j < 65536) (k : Int) : 0 ≤ mo_at n C k ∧ mo_at n C k < 65536 := by
  unfold mo_at
  split
  · exact hC _
  · decide
/-- the number of the pair of the atoms a and b, b < a -/
def pr (a b : Nat) : Nat := a * (a - 1) / 2 + b
theorem pr_lt : ∀ a, a < 6 → ∀ b, b < a → pr a b < 15 := by decide
theorem pr_lo : ∀ a, a < 6 → ∀ b, b < a → ∀ x, x < a → x * (x + 1) / 2 ≤ pr a b := by decide
theorem pr_hi : ∀ a, a < 6 → ∀ b, b < a → pr a b < a * (a + 1) / 2 := by decide
section MO1
variable {Γ : mj_G} {d L : Nat} {S : mj_S} {C : Nat → Int} {rf sz wr am hy sr tr rs fo sg : Int}
theorem m_Mo_thrown (hw : S.2.1 = 65) (h : mo_st S rf sz wr am hy sr tr rs fo sg) : mj_Met Γ d y_Mo_thrown M_Mo_thrown [.ref 40] S 0 0 (mj_I fun z S' => S' = S ∧ z = rf) := by
  have h1 : S.1 40 = _ := h
  refine mj_Met.of (by decide) ⟨rfl, rfl⟩ rfl rfl rfl ?_
  refine mj_aload_n d_Mo_thrown_0 rfl ?_
  refine mj_get (ci := 9) (j := 0) d_Mo_thrown_1 rfl w_Mo_85 (by decide) (by omega) (by assumption) rfl ?_
  refine mz_iret d_Mo_thrown_4 rfl (rfl) ?_
  exact ⟨rfl, rfl⟩
theorem m_Mo_refused (hw : S.2.1 = 65) (h : mo_st S rf sz wr am hy sr tr rs fo sg) {x : Int} (hx : iR x) : mj_Met Γ d y_Mo_refused M_Mo_refused [.ref 40, .int (iZ x)] S 0 0 (mj_I fun z S' => mj_fr S S' [40] ∧ z = (if 0 < x then 1 else 0) ∧ mo_st S' x sz wr am hy sr tr rs fo sg) := by
  have h1 : S.1 40 = _ := h
  refine mj_Met.of (by decide) ⟨rfl, rfl⟩ rfl rfl rfl ?_
  refine mj_aload_n d_Mo_refused_0 rfl ?_
  refine mj_iload_n d_Mo_refused_1 rfl ?_
  refine mz_put (ci := 9) (j := 0) d_Mo_refused_2 rfl w_Mo_85 (by decide) rfl (by omega) (by assumption) (Nat.le_of_ble_eq_true rfl) (mj_fit_int _) rfl (fun S_2 w_2 e_2 f_2 => ?_)
  refine mj_iload_n d_Mo_refused_5 rfl ?_
  refine mz_if_le 13 d_Mo_refused_6 (by decide) (by omega) (fun c_6 => ?_) (fun c_6 => ?_)
  · refine mz_iconst d_Mo_refused_13 ?_
    refine mz_iret d_Mo_refused_14 rfl (rfl) ?_
    exact ⟨f_2, by rw [if_neg (by omega)], e_2⟩
  · refine mz_iconst d_Mo_refused_9 ?_
    refine mj_goto 14 d_Mo_refused_10 (by decide) ?_
    refine mz_iret d_Mo_refused_14 rfl (rfl) ?_
    exact ⟨f_2, by rw [if_pos (by omega)], e_2⟩
theorem m_Mo_erase (hw : S.2.1 = 65) (h : mo_st S rf sz wr am hy sr tr rs fo sg) : mj_Met Γ d y_Mo_erase M_Mo_erase [.ref 40] S 0 0 (mj_I fun z S' => mj_fr S S' [40] ∧ z = sz ∧ mo_st S' 0 0 wr am hy sr tr rs fo sg) := by
  have h1 : S.1 40 = _ := h
  refine mj_Met.of (by decide) ⟨rfl, rfl⟩ rfl rfl rfl ?_
  refine mj_aload_n d_Mo_erase_0 rfl ?_
  refine mz_iconst d_Mo_erase_1 ?_
  refine mz_put (ci := 9) (j := 0) d_Mo_erase_2 rfl w_Mo_85 (by decide) rfl (by omega) (by assumption) (Nat.le_of_ble_eq_true rfl) (mj_fit_int _) rfl (fun S_2 w_2 e_2 f_2 => ?_)
  refine mj_aload_n d_Mo_erase_5 rfl ?_
  refine mj_get (ci := 9) (j := 1) d_Mo_erase_6 rfl w_Mo_88 (by decide) (by omega) (by assumption) rfl ?_
  refine mz_ist1 d_Mo_erase_9 (rfl) ?_
  refine mj_aload_n d_Mo_erase_10 rfl ?_
  refine mz_iconst d_Mo_erase_11 ?_
  refine mz_put (ci := 9) (j := 1) d_Mo_erase_12 rfl w_Mo_88 (by decide) rfl (by omega) (by assumption) (Nat.le_of_ble_eq_true rfl) (mj_fit_int _) rfl (fun S_12 w_12 e_12 f_12 => ?_)
  refine mj_iload_n d_Mo_erase_15 rfl ?_
  refine mz_iret d_Mo_erase_16 rfl (rfl) ?_
  exact ⟨f_2.tr f_12 (by simp) (by simp), rfl, e_12⟩
theorem m_Mo_place (hw : S.2.1 = 65) (h : mo_st S rf sz wr am hy sr tr rs fo sg) : mj_Met Γ d y_Mo_place M_Mo_place [.ref 40] S 0 0 (mj_I fun z S' => mj_fr S S' [40] ∧ z = wr ∧ mo_st S' 0 sz wr am hy sr tr rs fo sg) := by
  have h1 : S.1 40 = _ := h
  refine mj_Met.of (by decide) ⟨rfl, rfl⟩ rfl rfl rfl ?_
  refine mj_aload_n d_Mo_place_0 rfl ?_
  refine mz_iconst d_Mo_place_1 ?_
  refine mz_put (ci := 9) (j := 0) d_Mo_place_2 rfl w_Mo_85 (by decide) rfl (by omega) (by assumption) (Nat.le_of_ble_eq_true rfl) (mj_fit_int _) rfl (fun S_2 w_2 e_2 f_2 => ?_)
  refine mj_aload_n d_Mo_place_5 rfl ?_
  refine mj_get (ci := 9) (j := 3) d_Mo_place_6 rfl w_Mo_13 (by decide) (by omega) (by assumption) rfl ?_
  refine mz_iret d_Mo_place_9 rfl (rfl) ?_
  exact ⟨f_2, rfl, e_2⟩
theorem m_Mo_count (hw : S.2.1 = 65) (h : mo_st S rf sz wr am hy sr tr rs fo sg) {k : Int} (hk : iR k) : mj_Met Γ d y_Mo_count M_Mo_count [.ref 40, .int (iZ k)] S 0 0 (mj_I fun z S' => mj_fr S S' [40] ∧ z = (if k = 0 then sr else if k = 1 then am else if k = 2 then hy else -1) ∧ mo_st S' 0 sz wr am hy sr tr rs fo sg) := by
  have h1 : S.1 40 = _ := h
  refine mj_Met.of (by decide) ⟨rfl, rfl⟩ rfl rfl rfl ?_
  refine mj_aload_n d_Mo_count_0 rfl ?_
  refine mz_iconst d_Mo_count_1 ?_
  refine mz_put (ci := 9) (j := 0) d_Mo_count_2 rfl w_Mo_85 (by decide) rfl (by omega) (by assumption) (Nat.le_of_ble_eq_true rfl) (mj_fit_int _) rfl (fun S_2 w_2 e_2 f_2 => ?_)
  refine mj_iload_n d_Mo_count_5 rfl ?_
  refine mz_if_ne 16 d_Mo_count_6 (by decide) (by omega) (fun c_6 => ?_) (fun c_6 => ?_)
  · refine mj_iload_n d_Mo_count_16 rfl ?_
    refine mz_iconst d_Mo_count_17 ?_
    refine mz_icmp_ne 28 d_Mo_count_18 (by decide) (by omega) (by omega) (fun c_18 => ?_) (fun c_18 => ?_)
    · refine mj_iload_n d_Mo_count_28 rfl ?_
      refine mz_iconst d_Mo_count_29 ?_
      refine mz_icmp_ne 40 d_Mo_count_30 (by decide) (by omega) (by omega) (fun c_30 => ?_) (fun c_30 => ?_)
      · refine mz_iconst d_Mo_count_40 ?_
        refine mz_iret d_Mo_count_41 rfl (rfl) ?_
        exact ⟨f_2, by rw [if_neg c_6, if_neg c_18, if_neg c_30], e_2⟩
      · refine mj_aload_n d_Mo_count_33 rfl ?_
        refine mj_get (ci := 9) (j := 5) d_Mo_count_34 rfl w_Mo_132 (by decide) (by omega) (by assumption) rfl ?_
        refine mj_goto 41 d_Mo_count_37 (by decide) ?_
        refine mz_iret d_Mo_count_41 rfl (rfl) ?_
        exact ⟨f_2, by rw [if_neg c_6, if_neg c_18, if_pos c_30], e_2⟩
    · refine mj_aload_n d_Mo_count_21 rfl ?_
      refine mj_get (ci := 9) (j := 4) d_Mo_count_22 rfl w_Mo_129 (by decide) (by omega) (by assumption) rfl ?_
      refine mj_goto 41 d_Mo_count_25 (by decide) ?_
      refine mz_iret d_Mo_count_41 rfl (rfl) ?_
      exact ⟨f_2, by rw [if_neg c_6, if_pos c_18], e_2⟩
  · refine mj_aload_n d_Mo_count_9 rfl ?_
    refine mj_get (ci := 9) (j := 7) d_Mo_count_10 rfl w_Mo_135 (by decide) (by omega) (by assumption) rfl ?_
    refine mj_goto 41 d_Mo_count_13 (by decide) ?_
    refine mz_iret d_Mo_count_41 rfl (rfl) ?_
    exact ⟨f_2, by rw [if_pos c_6], e_2⟩
theorem m_Mo_fault (hw : S.2.1 = 65) (h : mo_st S rf sz wr am hy sr tr rs fo sg) {x p : Int} : mj_Met Γ d y_Mo_fault M_Mo_fault [.ref 40, .int (iZ x), .int (iZ p)] S 0 0 (mj_I fun z S' => mj_fr S S' [40] ∧ z = x ∧ mo_st S' rf sz p am hy sr tr rs fo sg) := by
  have h1 : S.1 40 = _ := h
  refine mj_Met.of (by decide) ⟨rfl, rfl⟩ rfl rfl rfl ?_
  refine mj_aload_n d_Mo_fault_0 rfl ?_
  refine mj_iload_n d_Mo_fault_1 rfl ?_
  refine mz_put (ci := 9) (j := 3) d_Mo_fault_2 rfl w_Mo_13 (by decide) rfl (by omega) (by assumption) (Nat.le_of_ble_eq_true rfl) (mj_fit_int _) rfl (fun S_2 w_2 e_2 f_2 => ?_)
  refine mj_iload_n d_Mo_fault_5 rfl ?_
  refine mz_iret d_Mo_fault_6 rfl (rfl) ?_
  exact ⟨f_2, rfl, e_2⟩
theorem m_Mo_type (hw : S.2.1 = 65) (h : mo_st S rf L wr am hy sr tr rs fo sg) (hl : mj_lc S C) (hL : L ≤ 60) {c : Int} (hc : 0 ≤ c ∧ c < 65536) (hd : 1 ≤ d) : mj_Met Γ d y_Mo_type M_Mo_type [.ref 40, .int (iZ c)] S 0 0 (mj_I fun z S' => mj_fr S S' [40, 41] ∧
    ((L = 60 ∧ mo_st S' 1 L wr am hy sr tr rs fo sg ∧ mj_lc S' C) ∨ (L < 60 ∧ z = (L : Int) + 1 ∧ mo_st S' 0 ((L : Int) + 1) wr am hy sr tr rs fo sg ∧ mj_lc S' (va_up C L c)))) := by
  have h1 : S.1 40 = _ := h
  have h2 := hl.1
  refine mj_Met.of (by decide) ⟨rfl, rfl⟩ rfl rfl rfl ?_
  refine mj_aload_n d_Mo_type_0 rfl ?_
  refine mj_aload_n d_Mo_type_1 rfl ?_
  refine mj_get (ci := 9) (j := 1) d_Mo_type_2 rfl w_Mo_88 (by decide) (by omega) (by assumption) rfl ?_
  refine mz_bipush d_Mo_type_5 (by decide) ?_
  refine mz_icmp_ne 14 d_Mo_type_7 (by decide) (by omega) (by omega) (fun c_7 => ?_) (fun c_7 => ?_)
  · refine mz_iconst d_Mo_type_14 ?_
    refine mz_callV1i (ci := 9) d_Mo_type_15 (m_Mo_refused (d := 0) (x := 0) hw h (by decide)) cw_Mo_refused lk_Mo_91 rfl rfl (by omega) (by assumption) (by omega) rfl (fun z_15 S_15 h_15 => ?_)
    obtain ⟨g1, hz, g2⟩ := h_15
    rw [if_neg (by decide)] at hz
    subst hz
    have g20 : S_15.1 40 = _ := g2
    have h2' := g1.at h2 (by simp)
    have hw1 := g1.w.trans hw
    refine mz_if_eq 23 d_Mo_type_18 (by decide) (by omega) (fun c_18 => ?_) (fun c_18 => ?_)
    · have hnr := mj_narC hc.1 hc.2
      refine mj_aload_n d_Mo_type_23 rfl ?_
      refine mj_get (ci := 9) (j := 2) d_Mo_type_24 rfl w_Mo_7 (by decide) (by omega) (by assumption) rfl ?_
      refine mj_aload_n d_Mo_type_27 rfl ?_
      refine mj_get (ci := 9) (j := 1) d_Mo_type_28 rfl w_Mo_88 (by decide) (by omega) (by assumption) rfl ?_
      refine mj_iload_n d_Mo_type_31 rfl ?_
      refine mz_cast (j := L) d_Mo_type_32 (by omega) (by assumption) (by omega) (by omega) (hnr) (fun S_32 w_32 e_32 f_32 => ?_)
      have g21 := f_32.at g20 (by simp)
      refine mj_aload_n d_Mo_type_33 rfl ?_
      refine mj_dup d_Mo_type_34 rfl ?_
      refine mj_get (ci := 9) (j := 1) d_Mo_type_35 rfl w_Mo_88 (by decide) (by omega) (by assumption) rfl ?_
      refine mz_iconst d_Mo_type_38 ?_
      refine mz_iadd d_Mo_type_39 ?_
      refine mz_put (ci := 9) (j := 1) d_Mo_type_40 rfl w_Mo_88 (by decide) rfl (by omega) (by assumption) (Nat.le_of_ble_eq_true rfl) (mj_fit_int _) rfl (fun S_40 w_40 e_40 f_40 => ?_)
      refine mj_aload_n d_Mo_type_43 rfl ?_
      refine mj_get (ci := 9) (j := 1) d_Mo_type_44 rfl w_Mo_88 (by decide) (by omega) (by assumption) rfl ?_
      refine mz_iret d_Mo_type_47 rfl (rfl) ?_
      refine ⟨(g1.tr f_32 (l := [40, 41]) (by simp) (by simp)).tr f_40 (by simp) (by simp), Or.inr ⟨by omega, rfl, e_40, f_40.at e_32 (by simp), fun j => ?_⟩⟩
      by_cases e : j = L
      · subst e; rw [va_up_self]; exact hc
      · rw [va_up_ne _ _ e]; exact hl.2 j
    · exact absurd rfl c_18
  · refine mz_iconst d_Mo_type_10 ?_
    refine mj_goto 15 d_Mo_type_11 (by decide) ?_
    refine mz_callV1i (ci := 9) d_Mo_type_15 (m_Mo_refused (d := 0) (x := 1) hw h (by decide)) cw_Mo_refused lk_Mo_91 rfl rfl (by omega) (by assumption) (by omega) rfl (fun z_15 S_15 h_15 => ?_)
    obtain ⟨g1, hz, g2⟩ := h_15
    rw [if_pos (by decide)] at hz
    subst hz
    refine mz_if_eq 23 d_Mo_type_18 (by decide) (by omega) (fun c_18 => ?_) (fun c_18 => ?_)
    · exact absurd c_18 (by decide)
    · refine mz_iconst d_Mo_type_21 ?_
      refine mz_iret d_Mo_type_22 rfl (rfl) ?_
      exact ⟨g1.tr (mj_fr.rf _ []) (by simp) (by simp), Or.inl ⟨by omega, g2, g1.at h2 (by simp), hl.2⟩⟩
theorem m_Mo_character (hw : S.2.1 = 65) (h : mo_st S rf L wr am hy sr tr rs fo sg) (hl : mj_lc S C) (hL : L ≤ 60) {k : Int} (hk : iR k) : mj_Met Γ d y_Mo_character M_Mo_character [.ref 40, .int (iZ k)] S 0 0 (mj_I fun z S' => mj_fr S S' [40] ∧ z = ln_at L C k ∧ mo_st S' 0 L wr am hy sr tr rs fo sg) := by
  have h1 : S.1 40 = _ := h
  have h2 := hl.1
  refine mj_Met.of (by decide) ⟨rfl, rfl⟩ rfl rfl rfl ?_
  refine mj_aload_n d_Mo_character_0 rfl ?_
  refine mz_iconst d_Mo_character_1 ?_
  refine mz_put (ci := 9) (j := 0) d_Mo_character_2 rfl w_Mo_85 (by decide) rfl (by omega) (by assumption) (Nat.le_of_ble_eq_true rfl) (mj_fit_int _) rfl (fun S_2 w_2 e_2 f_2 => ?_)
  have h2' := f_2.at h2 (by simp)
  refine mj_iload_n d_Mo_character_5 rfl ?_
  refine mz_if_lt 26 d_Mo_character_6 (by decide) (by omega) (fun c_6 => ?_) (fun c_6 => ?_)
  · refine mz_bipush d_Mo_character_26 (by decide) ?_
    refine mz_iret d_Mo_character_28 rfl (rfl) ?_
    exact ⟨f_2, by unfold ln_at; rw [if_neg (by omega)], e_2⟩
  · refine mj_iload_n d_Mo_character_9 rfl ?_
    refine mj_aload_n d_Mo_character_10 rfl ?_
    refine mj_get (ci := 9) (j := 1) d_Mo_character_11 rfl w_Mo_88 (by decide) (by omega) (by assumption) rfl ?_
    refine mz_icmp_ge 26 d_Mo_character_14 (by decide) (by omega) (by omega) (fun c_14 => ?_) (fun c_14 => ?_)
    · refine mz_bipush d_Mo_character_26 (by decide) ?_
      refine mz_iret d_Mo_character_28 rfl (rfl) ?_
      exact ⟨f_2, by unfold ln_at; rw [if_neg (by omega)], e_2⟩
    · have hnr := mj_narC (hl.2 k.toNat).1 (hl.2 k.toNat).2
      refine mj_aload_n d_Mo_character_17 rfl ?_
      refine mj_get (ci := 9) (j := 2) d_Mo_character_18 rfl w_Mo_7 (by decide) (by omega) (by assumption) rfl ?_
      refine mj_iload_n d_Mo_character_21 rfl ?_
      refine mz_cald (j := k.toNat) d_Mo_character_22 (by omega) (by assumption) (by omega) (by omega) ?_
      refine mj_goto 28 d_Mo_character_23 (by decide) ?_
      refine mz_iret d_Mo_character_28 rfl (hnr) ?_
      exact ⟨f_2, by unfold ln_at; rw [if_pos (by omega)], e_2⟩
theorem m_Mo_at (hw : S.2.1 = 65) (h : mo_st S rf L wr am hy sr tr rs fo sg) (hl : mj_lc S C) (hL : L ≤ 60) {k : Int} (hk : iR k) : mj_Met Γ d y_Mo_at M_Mo_at [.ref 40, .int (iZ k)] S 0 0 (mj_I fun z S' => S' = S ∧ z = mo_at L C k) := by
  have h1 : S.1 40 = _ := h
  have h2 := hl.1
  refine mj_Met.of (by decide) ⟨rfl, rfl⟩ rfl rfl rfl ?_
  refine mj_iload_n d_Mo_at_0 rfl ?_
  refine mz_if_lt 21 d_Mo_at_1 (by decide) (by omega) (fun c_1 => ?_) (fun c_1 => ?_)
  · refine mz_iconst d_Mo_at_21 ?_
    refine mz_iret d_Mo_at_22 rfl (rfl) ?_
    exact ⟨rfl, by unfold mo_at; rw [if_neg (by omega)]⟩
  · refine mj_iload_n d_Mo_at_4 rfl ?_
    refine mj_aload_n d_Mo_at_5 rfl ?_
    refine mj_get (ci := 9) (j := 1) d_Mo_at_6 rfl w_Mo_88 (by decide) (by omega) (by assumption) rfl ?_
    refine mz_icmp_ge 21 d_Mo_at_9 (by decide) (by omega) (by omega) (fun c_9 => ?_) (fun c_9 => ?_)
    · refine mz_iconst d_Mo_at_21 ?_
      refine mz_iret d_Mo_at_22 rfl (rfl) ?_
      exact ⟨rfl, by unfold mo_at; rw [if_neg (by omega)]⟩
    · have hnr := mj_narC (hl.2 k.toNat).1 (hl.2 k.toNat).2
      refine mj_aload_n d_Mo_at_12 rfl ?_
      refine mj_get (ci := 9) (j := 2) d_Mo_at_13 rfl w_Mo_7 (by decide) (by omega) (by assumption) rfl ?_
      refine mj_iload_n d_Mo_at_16 rfl ?_
      refine mz_cald (j := k.toNat) d_Mo_at_17 (by omega) (by assumption) (by omega) (by omega) ?_
      refine mj_goto 22 d_Mo_at_18 (by decide) ?_
      refine mz_iret d_Mo_at_22 rfl (hnr) ?_
      exact ⟨rfl, by unfold mo_at; rw [if_pos (by omega)]⟩
theorem m_Mo_isDigit {c : Int} (hc : iR c) : mj_Met Γ d y_Mo_isDigit M_Mo_isDigit [.int (iZ c)] S 0 0 (mj_I fun z S' => S' = S ∧ z = if 48 ≤ c ∧ c ≤ 57 then 1 else 0) := by
  refine mj_Met.of (by decide) ⟨rfl, rfl⟩ rfl rfl rfl ?_
  refine mj_iload_n d_Mo_isDigit_0 rfl ?_
  refine mz_bipush d_Mo_isDigit_1 (by decide) ?_
  refine mz_icmp_lt 16 d_Mo_isDigit_3 (by decide) (by omega) (by omega) (fun c_3 => ?_) (fun c_3 => ?_)
  · refine mz_iconst d_Mo_isDigit_16 ?_
    refine mz_iret d_Mo_isDigit_17 rfl (rfl) ?_
    exact ⟨rfl, by rw [if_neg (by omega)]⟩
  · refine mj_iload_n d_Mo_isDigit_6 rfl ?_
    refine mz_bipush d_Mo_isDigit_7 (by decide) ?_
    refine mz_icmp_gt 16 d_Mo_isDigit_9 (by decide) (by omega) (by omega) (fun c_9 => ?_) (fun c_9 => ?_)
    · refine mz_iconst d_Mo_isDigit_16 ?_
      refine mz_iret d_Mo_isDigit_17 rfl (rfl) ?_
      exact ⟨rfl, by rw [if_neg (by omega)]⟩
    · refine mz_iconst d_Mo_isDigit_12 ?_
      refine mj_goto 17 d_Mo_isDigit_13 (by decide) ?_
      refine mz_iret d_Mo_isDigit_17 rfl (rfl) ?_
      exact ⟨rfl, by rw [if_pos (by omega)]⟩
theorem m_Mo_signSize {k : Nat} (hk : k < 10) : mj_Met Γ d y_Mo_signSize M_Mo_signSize [.int (iZ k)] S 0 0 (mj_I fun z S' => S' = S ∧ z = if mj_SND k = 0 then 1 else 2) := by
  have t : ∀ k : Nat, k < 10 → ((k = 6 ∨ k = 7) ↔ ¬ mj_SND k = 0) := by decide
  have tk := t k hk
  refine mj_Met.of (by decide) ⟨rfl, rfl⟩ rfl rfl rfl ?_
  refine mj_iload_n d_Mo_signSize_0 rfl ?_
  refine mz_bipush d_Mo_signSize_1 (by decide) ?_
  refine mz_icmp_eq 12 d_Mo_signSize_3 (by decide) (by omega) (by omega) (fun c_3 => ?_) (fun c_3 => ?_)
  · refine mz_iconst d_Mo_signSize_12 ?_
    refine mj_goto 17 d_Mo_signSize_13 (by decide) ?_
    refine mz_iret d_Mo_signSize_17 rfl (rfl) ?_
    exact ⟨rfl, by rw [if_neg (tk.mp (by omega))]⟩
  · refine mj_iload_n d_Mo_signSize_6 rfl ?_
    refine mz_bipush d_Mo_signSize_7 (by decide) ?_
    refine mz_icmp_ne 16 d_Mo_signSize_9 (by decide) (by omega) (by omega) (fun c_9 => ?_) (fun c_9 => ?_)
    · refine mz_iconst d_Mo_signSize_16 ?_
      refine mz_iret d_Mo_signSize_17 rfl (rfl) ?_
      exact ⟨rfl, by rw [if_pos (by by_cases q : mj_SND k = 0; exact q; have := tk.mpr q; omega)]⟩
    · refine mz_iconst d_Mo_signSize_12 ?_
      refine mj_goto 17 d_Mo_signSize_13 (by decide) ?_
      refine mz_iret d_Mo_signSize_17 rfl (rfl) ?_
      exact ⟨rfl, by rw [if_neg (tk.mp (by omega))]⟩
theorem m_Mo_valence {k : Nat} (hk : k < 10) : mj_Met Γ d y_Mo_valence M_Mo_valence [.int (iZ k)] S 0 0 (mj_I fun z S' => S' = S ∧ z = mj_VAL k) := by
  have t : ∀ k : Nat, k < 10 → mj_VAL k = if k = 0 then 4 else if k = 1 ∨ k = 4 then 3 else if k = 2 ∨ k = 3 then 2 else 1 := by decide
  rw [t k hk]
  refine mj_Met.of (by decide) ⟨rfl, rfl⟩ rfl rfl rfl ?_
  refine mj_iload_n d_Mo_valence_0 rfl ?_
  refine mz_if_ne 8 d_Mo_valence_1 (by decide) (by omega) (fun c_1 => ?_) (fun c_1 => ?_)
  · rw [if_neg (by omega)]
    refine mj_iload_n d_Mo_valence_8 rfl ?_
    refine mz_iconst d_Mo_valence_9 ?_
    refine mz_icmp_eq 18 d_Mo_valence_10 (by decide) (by omega) (by omega) (fun c_10 => ?_) (fun c_10 => ?_)
    · refine mz_iconst d_Mo_valence_18 ?_
      refine mj_goto 37 d_Mo_valence_19 (by decide) ?_
      refine mz_iret d_Mo_valence_37 rfl (rfl) ?_
      exact ⟨rfl, by rw [if_pos (by omega)]⟩
    · refine mj_iload_n d_Mo_valence_13 rfl ?_
      refine mz_iconst d_Mo_valence_14 ?_
      refine mz_icmp_ne 22 d_Mo_valence_15 (by decide) (by omega) (by omega) (fun c_15 => ?_) (fun c_15 => ?_)
      · rw [if_neg (by omega)]
        refine mj_iload_n d_Mo_valence_22 rfl ?_
        refine mz_iconst d_Mo_valence_23 ?_
        refine mz_icmp_eq 32 d_Mo_valence_24 (by decide) (by omega) (by omega) (fun c_24 => ?_) (fun c_24 => ?_)
        · refine mz_iconst d_Mo_valence_32 ?_
          refine mj_goto 37 d_Mo_valence_33 (by decide) ?_
          refine mz_iret d_Mo_valence_37 rfl (rfl) ?_
          exact ⟨rfl, by rw [if_pos (by omega)]⟩
        · refine mj_iload_n d_Mo_valence_27 rfl ?_
          refine mz_iconst d_Mo_valence_28 ?_
          refine mz_icmp_ne 36 d_Mo_valence_29 (by decide) (by omega) (by omega) (fun c_29 => ?_) (fun c_29 => ?_)
          · refine mz_iconst d_Mo_valence_36 ?_
            refine mz_iret d_Mo_valence_37 rfl (rfl) ?_
            exact ⟨rfl, by rw [if_neg (by omega)]⟩
          · refine mz_iconst d_Mo_valence_32 ?_
            refine mj_goto 37 d_Mo_valence_33 (by decide) ?_
            refine mz_iret d_Mo_valence_37 rfl (rfl) ?_
            exact ⟨rfl, by rw [if_pos (by omega)]⟩
      · refine mz_iconst d_Mo_valence_18 ?_
        refine mj_goto 37 d_Mo_valence_19 (by decide) ?_
        refine mz_iret d_Mo_valence_37 rfl (rfl) ?_
        exact ⟨rfl, by rw [if_pos (by omega)]⟩
  · refine mz_iconst d_Mo_valence_4 ?_
    refine mj_goto 37 d_Mo_valence_5 (by decide) ?_
    refine mz_iret d_Mo_valence_37 rfl (rfl) ?_
    exact ⟨rfl, by rw [if_pos (by omega)]⟩
theorem m_Mo_least {x y : Int} (hx : iR x) (hy : iR y) : mj_Met Γ d y_Mo_least M_Mo_least [.int (iZ x), .int (iZ y)] S 0 0 (mj_I fun z S' => S' = S ∧ z = min x y) := by
  refine mj_Met.of (by decide) ⟨rfl, rfl⟩ rfl rfl rfl ?_
  refine mj_iload_n d_Mo_least_0 rfl ?_
  refine mj_iload_n d_Mo_least_1 rfl ?_
  refine mz_icmp_ge 9 d_Mo_least_2 (by decide) (by omega) (by omega) (fun c_2 => ?_) (fun c_2 => ?_)
  · refine mj_iload_n d_Mo_least_9 rfl ?_
    refine mz_iret d_Mo_least_10 rfl (rfl) ?_
    exact ⟨rfl, by omega⟩
  · refine mj_iload_n d_Mo_least_5 rfl ?_
    refine mj_goto 10 d_Mo_least_6 (by decide) ?_
    refine mz_iret d_Mo_least_10 rfl (rfl) ?_
    exact ⟨rfl, by omega⟩
theorem m_Mo_pair {a b : Nat} (ha : a < 6) (hb : b < 6) : mj_Met Γ d y_Mo_pair M_Mo_pair [.int (iZ a), .int (iZ b)] S 0 0 (mj_I fun z S' => S' = S ∧ z = if b < a then (pr a b : Int) else (pr b a : Int)) := by
  have t : ∀ x : Nat, x < 6 → 0 ≤ (x : Int) * ((x : Int) - 1) ∧ (x : Int) * ((x : Int) - 1) ≤ 20 ∧ (x : Int) * ((x : Int) - 1) / 2 = ((x * (x - 1) / 2 : Nat) : Int) := by decide
  obtain ⟨t1, t2, t3⟩ := t a ha
  obtain ⟨u1, u2, u3⟩ := t b hb
  refine mj_Met.of (by decide) ⟨rfl, rfl⟩ rfl rfl rfl ?_
  refine mj_iload_n d_Mo_pair_0 rfl ?_
  refine mj_iload_n d_Mo_pair_1 rfl ?_
  refine mz_icmp_le 17 d_Mo_pair_2 (by decide) (by omega) (by omega) (fun c_2 => ?_) (fun c_2 => ?_)
  · refine mj_iload_n d_Mo_pair_17 rfl ?_
    refine mj_iload_n d_Mo_pair_18 rfl ?_
    refine mz_iconst d_Mo_pair_19 ?_
    refine mz_isub d_Mo_pair_20 ?_
    refine mz_imul d_Mo_pair_21 ?_
    refine mz_iconst d_Mo_pair_22 ?_
    refine mz_idiv d_Mo_pair_23 (by omega) (by omega) (by omega) (by omega) ?_
    refine mj_iload_n d_Mo_pair_24 rfl ?_
    refine mz_iadd d_Mo_pair_25 ?_
    refine mz_iret d_Mo_pair_26 rfl (rfl) ?_
    refine ⟨rfl, ?_⟩
    rw [if_neg (by omega), u3]
    unfold pr
    omega
  · refine mj_iload_n d_Mo_pair_5 rfl ?_
    refine mj_iload_n d_Mo_pair_6 rfl ?_
    refine mz_iconst d_Mo_pair_7 ?_
    refine mz_isub d_Mo_pair_8 ?_
    refine mz_imul d_Mo_pair_9 ?_
    refine mz_iconst d_Mo_pair_10 ?_
    refine mz_idiv d_Mo_pair_11 (by omega) (by omega) (by omega) (by omega) ?_
    refine mj_iload_n d_Mo_pair_12 rfl ?_
    refine mz_iadd d_Mo_pair_13 ?_
    refine mj_goto 26 d_Mo_pair_14 (by decide) ?_
    refine mz_iret d_Mo_pair_26 rfl (rfl) ?_
    refine ⟨rfl, ?_⟩
    rw [if_pos (by omega), t3]
    unfold pr
    omega
theorem m_Mo_upper {a b : Nat} (ha : a < 6) (hb : b < a) {k : Int} (hk : k = pr a b) : mj_Met Γ d y_Mo_upper M_Mo_upper [.int (iZ k)] S 0 0 (mj_I fun z S' => S' = S ∧ z = a) := by
  have t : ∀ x : Nat, x < 6 → 0 ≤ (x : Int) * ((x : Int) + 1) ∧ (x : Int) * ((x : Int) + 1) ≤ 30 ∧ (x : Int) * ((x : Int) + 1) / 2 = ((x * (x + 1) / 2 : Nat) : Int) := by decide
  have hp := pr_lt a ha b hb
  have lo := pr_lo a ha b hb
  have hi := pr_hi a ha b hb
  subst hk
  refine mj_Met.of (by decide) ⟨rfl, rfl⟩ rfl rfl rfl ?_
  refine mz_iconst d_Mo_upper_0 ?_
  refine mz_ist1 d_Mo_upper_1 (rfl) ?_
  have loop : ∀ (q x : Nat), x + q = a → mj_Ok Γ d M_Mo_upper 0 0 2 [.int (iZ (pr a b : Nat)), .int (iZ x)] [] S (mj_I fun z S' => S' = S ∧ z = a) := by
    intro q
    induction q with
    | zero =>
      intro x hx
      have : x = a := by omega
      subst this
      obtain ⟨t1, t2, t3⟩ := t x ha
      refine mj_iload_n d_Mo_upper_2 rfl ?_
      refine mj_iload_n d_Mo_upper_3 rfl ?_
      refine mz_iconst d_Mo_upper_4 ?_
      refine mz_iadd d_Mo_upper_5 ?_
      refine mz_imul d_Mo_upper_6 ?_
      refine mz_iconst d_Mo_upper_7 ?_
      refine mz_idiv d_Mo_upper_8 (by omega) (by omega) (by omega) (by omega) ?_
      refine mj_iload_n d_Mo_upper_9 rfl ?_
      refine mz_icmp_gt 19 d_Mo_upper_10 (by decide) (by omega) (by omega) (fun c_10 => ?_) (fun c_10 => ?_)
      · refine mj_iload_n d_Mo_upper_19 rfl ?_
        refine mz_iret d_Mo_upper_20 rfl (rfl) ?_
        exact ⟨rfl, rfl⟩
      · omega
    | succ q ih =>
      intro x hx
      obtain ⟨t1, t2, t3⟩ := t x (by omega)
      have l2 := lo x (by omega)
      refine mj_iload_n d_Mo_upper_2 rfl ?_
      refine mj_iload_n d_Mo_upper_3 rfl ?_
      refine mz_iconst d_Mo_upper_4 ?_
      refine mz_iadd d_Mo_upper_5 ?_
      refine mz_imul d_Mo_upper_6 ?_
      refine mz_iconst d_Mo_upper_7 ?_
      refine mz_idiv d_Mo_upper_8 (by omega) (by omega) (by omega) (by omega) ?_
      refine mj_iload_n d_Mo_upper_9 rfl ?_
      refine mz_icmp_gt 19 d_Mo_upper_10 (by decide) (by omega) (by omega) (fun c_10 => ?_) (fun c_10 => ?_)
      · omega
      · refine mz_inc1 d_Mo_upper_13 (rfl) ?_
        refine mj_goto 2 d_Mo_upper_16 (by decide) ?_
        have w := ih (x + 1) (by omega)
        rw [show ((x + 1 : Nat) : Int) = (x : Int) + 1 by omega] at w
        exact w
  exact loop (a - 1) 1 (by omega)
theorem m_Mo_lower {a b : Nat} (ha : a < 6) (hb : b < a) {k : Int} (hk : k = pr a b) (hd : 1 ≤ d) : mj_Met Γ d y_Mo_lower M_Mo_lower [.int (iZ k)] S 0 0 (mj_I fun z S' => S' = S ∧ z = b) := by
  have t : ∀ x : Nat, x < 6 → 0 ≤ (x : Int) * ((x : Int) - 1) ∧ (x : Int) * ((x : Int) - 1) ≤ 20 ∧ (x : Int) * ((x : Int) - 1) / 2 = ((x * (x - 1) / 2 : Nat) : Int) := by decide
  obtain ⟨t1, t2, t3⟩ := t a ha
  have hp := pr_lt a ha b hb
  subst hk
  refine mj_Met.of (by decide) ⟨rfl, rfl⟩ rfl rfl rfl ?_
  refine mj_iload_n d_Mo_lower_0 rfl ?_
  refine mj_iload_n d_Mo_lower_1 rfl ?_
  refine mz_callS1i d_Mo_lower_2 (m_Mo_upper (d := 0) ha hb rfl) cw_Mo_upper lk_Mo_138 (by omega) rfl (fun z_2 S_2 h_2 => ?_)
  obtain ⟨rfl, rfl⟩ := h_2
  refine mj_iload_n d_Mo_lower_5 rfl ?_
  refine mz_callS1i d_Mo_lower_6 (m_Mo_upper (d := 0) ha hb rfl) cw_Mo_upper lk_Mo_138 (by omega) rfl (fun z_6 S_6 h_6 => ?_)
  obtain ⟨rfl, rfl⟩ := h_6
  refine mz_iconst d_Mo_lower_9 ?_
  refine mz_isub d_Mo_lower_10 ?_
  refine mz_imul d_Mo_lower_11 ?_
  refine mz_iconst d_Mo_lower_12 ?_
  refine mz_idiv d_Mo_lower_13 (by omega) (by omega) (by omega) (by omega) ?_
  refine mz_isub d_Mo_lower_14 ?_
  refine mz_iret d_Mo_lower_15 rfl (rfl) ?_
  refine ⟨rfl, ?_⟩
  rw [t3]
  unfold pr
  omega
theorem m_Mo_isAtom (hw : S.2.1 = 65) (h : mo_st S rf sz wr am hy sr tr rs fo sg) (ha : iR am) {k : Int} (hk : iR k) : mj_Met Γ d y_Mo_isAtom M_Mo_isAtom [.ref 40, .int (iZ k)] S 0 0 (mj_I fun z S' => S' = S ∧ z = if 0 ≤ k ∧ k < am then 1 else 0) := by
  have h1 : S.1 40 = _ := h
  refine mj_Met.of (by decide) ⟨rfl, rfl⟩ rfl rfl rfl ?_
  refine mj_iload_n d_Mo_isAtom_0 rfl ?_
  refine mz_if_lt 16 d_Mo_isAtom_1 (by decide) (by omega) (fun c_1 => ?_) (fun c_1 => ?_)
  · refine mz_iconst d_Mo_isAtom_16 ?_
    refine mz_iret d_Mo_isAtom_17 rfl (rfl) ?_
    exact ⟨rfl, by rw [if_neg (by omega)]⟩
  · refine mj_iload_n d_Mo_isAtom_4 rfl ?_
    refine mj_aload_n d_Mo_isAtom_5 rfl ?_
    refine mj_get (ci := 9) (j := 4) d_Mo_isAtom_6 rfl w_Mo_129 (by decide) (by omega) (by assumption) rfl ?_
    refine mz_icmp_ge 16 d_Mo_isAtom_9 (by decide) (by omega) (by omega) (fun c_9 => ?_) (fun c_9 => ?_)
    · refine mz_iconst d_Mo_isAtom_16 ?_
      refine mz_iret d_Mo_isAtom_17 rfl (rfl) ?_
      exact ⟨rfl, by rw [if_neg (by omega)]⟩
    · refine mz_iconst d_Mo_isAtom_12 ?_
      refine mj_goto 17 d_Mo_isAtom_13 (by decide) ?_
      refine mz_iret d_Mo_isAtom_17 rfl (rfl) ?_
      exact ⟨rfl, by rw [if_pos (by omega)]⟩
theorem m_Mo_isStructure (hw : S.2.1 = 65) (h : mo_st S rf sz wr am hy sr tr rs fo sg) (ha : iR sr) {k : Int} (hk : iR k) : mj_Met Γ d y_Mo_isStructure M_Mo_isStructure [.ref 40, .int (iZ k)] S 0 0 (mj_I fun z S' => S' = S ∧ z = if 0 ≤ k ∧ k < sr then 1 else 0) := by
  have h1 : S.1 40 = _ := h
  refine mj_Met.of (by decide) ⟨rfl, rfl⟩ rfl rfl rfl ?_
  refine mj_iload_n d_Mo_isStructure_0 rfl ?_
  refine mz_if_lt 16 d_Mo_isStructure_1 (by decide) (by omega) (fun c_1 => ?_) (fun c_1 => ?_)
  · refine mz_iconst d_Mo_isStructure_16 ?_
    refine mz_iret d_Mo_isStructure_17 rfl (rfl) ?_
    exact ⟨rfl, by rw [if_neg (by omega)]⟩
  · refine mj_iload_n d_Mo_isStructure_4 rfl ?_
    refine mj_aload_n d_Mo_isStructure_5 rfl ?_
    refine mj_get (ci := 9) (j := 7) d_Mo_isStructure_6 rfl w_Mo_135 (by decide) (by omega) (by assumption) rfl ?_
    refine mz_icmp_ge 16 d_Mo_isStructure_9 (by decide) (by omega) (by omega) (fun c_9 => ?_) (fun c_9 => ?_)
    · refine mz_iconst d_Mo_isStructure_16 ?_
      refine mz_iret d_Mo_isStructure_17 rfl (rfl) ?_
      exact ⟨rfl, by rw [if_neg (by omega)]⟩
    · refine mz_iconst d_Mo_isStructure_12 ?_
      refine mj_goto 17 d_Mo_isStructure_13 (by decide) ?_
      refine mz_iret d_Mo_isStructure_17 rfl (rfl) ?_
      exact ⟨rfl, by rw [if_pos (by omega)]⟩
end MO1
