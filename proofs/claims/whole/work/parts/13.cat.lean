/-! the catalogue's methods (a catalogue at o: kinds o + 1, codes o + 2) -/
section CA
variable {Γ : mj_G} {d o n h z : Nat} {S : mj_S} {K D : Nat → Int}
theorem m_Ca_isOverfull (hw : S.2.1 = 65) (hc : mj_ca S o K D n h z) (hz : z < 1000) : mj_Met Γ d y_Ca_isOverfull M_Ca_isOverfull [.ref o] S 0 0 (mj_I fun r S' => S' = S ∧ r = if 500 < z then 1 else 0) := by
  obtain ⟨h1, h2, h3, h5⟩ := hc
  refine mj_Met.of (by decide) ⟨rfl, rfl⟩ rfl rfl rfl ?_
  refine mj_aload_n d_Ca_isOverfull_0 rfl ?_
  refine mj_get (ci := 8) (j := 4) d_Ca_isOverfull_1 rfl w_Ca_22 (by decide) (by omega) (by assumption) rfl ?_
  refine mz_sipush d_Ca_isOverfull_4 (by decide) ?_
  refine mz_icmp_le 14 d_Ca_isOverfull_7 (by decide) (by omega) (by omega) (fun c_7 => ?_) (fun c_7 => ?_)
  · refine mz_iconst d_Ca_isOverfull_14 ?_
    refine mz_iret d_Ca_isOverfull_15 rfl (rfl) ?_
    exact ⟨rfl, by rw [if_neg (by omega)]⟩
  · refine mz_iconst d_Ca_isOverfull_10 ?_
    refine mj_goto 15 d_Ca_isOverfull_11 (by decide) ?_
    refine mz_iret d_Ca_isOverfull_15 rfl (rfl) ?_
    exact ⟨rfl, by rw [if_pos (by omega)]⟩
theorem m_Ca_add (hw : S.2.1 = 65) (hc : mj_ca S o K D n h z) (hz : z < 1000) {c : Int} : mj_Met Γ d y_Ca_add M_Ca_add [.ref o, .int (iZ c)] S 0 0 (mj_V fun S' => mj_fr S S' [o, o + 2] ∧ mj_ca S' o K (if z < 500 then va_up D z c else D) n h (z + 1)) := by
  obtain ⟨h1, h2, h3, h5⟩ := hc
  refine mj_Met.of (by decide) ⟨rfl, rfl⟩ rfl rfl rfl ?_
  refine mj_aload_n d_Ca_add_0 rfl ?_
  refine mj_get (ci := 8) (j := 4) d_Ca_add_1 rfl w_Ca_22 (by decide) (by omega) (by assumption) rfl ?_
  refine mz_sipush d_Ca_add_4 (by decide) ?_
  refine mz_icmp_ge 20 d_Ca_add_7 (by decide) (by omega) (by omega) (fun c_7 => ?_) (fun c_7 => ?_)
  · refine mj_aload_n d_Ca_add_20 rfl ?_
    refine mj_dup d_Ca_add_21 rfl ?_
    refine mj_get (ci := 8) (j := 4) d_Ca_add_22 rfl w_Ca_22 (by decide) (by omega) (by assumption) rfl ?_
    refine mz_iconst d_Ca_add_25 ?_
    refine mz_iadd d_Ca_add_26 ?_
    refine mz_put (ci := 8) (j := 4) d_Ca_add_27 rfl w_Ca_22 (by decide) rfl (by omega) (by assumption) (Nat.le_of_ble_eq_true rfl) (mj_fit_int _) rfl (fun S_27 w_27 e_27 f_27 => ?_)
    have h2 := f_27.at h2 (by simp; try omega)
    have h3 := f_27.at h3 (by simp; try omega)
    refine mz_vret d_Ca_add_30 rfl ?_
    rw [if_neg (by omega)]
    exact ⟨f_27.tr (mj_fr.rf _ []) (by simp) (by simp), e_27, h2, h3, h5⟩
  · refine mj_aload_n d_Ca_add_10 rfl ?_
    refine mj_get (ci := 8) (j := 1) d_Ca_add_11 rfl w_Ca_15 (by decide) (by omega) (by assumption) rfl ?_
    refine mj_aload_n d_Ca_add_14 rfl ?_
    refine mj_get (ci := 8) (j := 4) d_Ca_add_15 rfl w_Ca_22 (by decide) (by omega) (by assumption) rfl ?_
    refine mj_iload_n d_Ca_add_18 rfl ?_
    refine mz_iast d_Ca_add_19 (by omega) (by assumption) (rfl) (by omega) (fun S_19 w_19 e_19 f_19 => ?_)
    have h1 := f_19.at h1 (by simp; try omega)
    have h2 := f_19.at h2 (by simp; try omega)
    refine mj_aload_n d_Ca_add_20 rfl ?_
    refine mj_dup d_Ca_add_21 rfl ?_
    refine mj_get (ci := 8) (j := 4) d_Ca_add_22 rfl w_Ca_22 (by decide) (by omega) (by assumption) rfl ?_
    refine mz_iconst d_Ca_add_25 ?_
    refine mz_iadd d_Ca_add_26 ?_
    refine mz_put (ci := 8) (j := 4) d_Ca_add_27 rfl w_Ca_22 (by decide) rfl (by omega) (by assumption) (Nat.le_of_ble_eq_true rfl) (mj_fit_int _) rfl (fun S_27 w_27 e_27 f_27 => ?_)
    have h2 := f_27.at h2 (by simp; try omega)
    have e_19 := f_27.at e_19 (by simp; try omega)
    refine mz_vret d_Ca_add_30 rfl ?_
    rw [if_pos (by omega)]
    exact ⟨f_19.tr f_27 (by simp) (by simp), e_27, h2, e_19, h5⟩
theorem m_Ca_find (hw : S.2.1 = 65) (hc : mj_ca S o K D n h z) (hz : z ≤ 500) {c : Int} (hcr : iR c) (hD : ∀ j, j < z → iR (D j)) : mj_Met Γ d y_Ca_find M_Ca_find [.ref o, .int (iZ c)] S 0 0 (mj_I fun r S' => S' = S ∧ ((∃ i : Nat, r = i ∧ i < z ∧ D i = c ∧ ∀ j, j < i → D j ≠ c) ∨ (r = -1 ∧ ∀ j, j < z → D j ≠ c))) := by
  obtain ⟨h1, h2, h3, h5⟩ := hc
  refine mj_Met.of (by decide) ⟨rfl, rfl⟩ rfl rfl rfl ?_
  refine mz_iconst d_Ca_find_0 ?_
  refine mz_ist2 d_Ca_find_1 (rfl) ?_
  have loop : ∀ (q i : Nat), i + q = z → (∀ j, j < i → D j ≠ c) → mj_Ok Γ d M_Ca_find 0 0 2 [.ref o, .int (iZ c), .int (iZ i)] [] S (mj_I fun r S' => S' = S ∧ ((∃ i : Nat, r = i ∧ i < z ∧ D i = c ∧ ∀ j, j < i → D j ≠ c) ∨ (r = -1 ∧ ∀ j, j < z → D j ≠ c))) := by
    intro q
    induction q with
    | zero =>
      intro i hi hj
      refine mj_iload_n d_Ca_find_2 rfl ?_
      refine mj_aload_n d_Ca_find_3 rfl ?_
      refine mj_get (ci := 8) (j := 4) d_Ca_find_4 rfl w_Ca_22 (by decide) (by omega) (by assumption) rfl ?_
      refine mz_icmp_ge 28 d_Ca_find_7 (by decide) (by omega) (by omega) (fun c_7 => ?_) (fun c_7 => ?_)
      · refine mz_iconst d_Ca_find_28 ?_
        refine mz_iret d_Ca_find_29 rfl (rfl) ?_
        rw [show i = z by omega] at hj
        exact ⟨rfl, Or.inr ⟨rfl, hj⟩⟩
      · omega
    | succ q ih =>
      intro i hi hj
      have r := hD i (by omega)
      refine mj_iload_n d_Ca_find_2 rfl ?_
      refine mj_aload_n d_Ca_find_3 rfl ?_
      refine mj_get (ci := 8) (j := 4) d_Ca_find_4 rfl w_Ca_22 (by decide) (by omega) (by assumption) rfl ?_
      refine mz_icmp_ge 28 d_Ca_find_7 (by decide) (by omega) (by omega) (fun c_7 => ?_) (fun c_7 => ?_)
      · omega
      · refine mj_aload_n d_Ca_find_10 rfl ?_
        refine mj_get (ci := 8) (j := 1) d_Ca_find_11 rfl w_Ca_15 (by decide) (by omega) (by assumption) rfl ?_
        refine mj_iload_n d_Ca_find_14 rfl ?_
        refine mz_iald d_Ca_find_15 (by omega) (by assumption) (rfl) (by omega) ?_
        refine mj_iload_n d_Ca_find_16 rfl ?_
        refine mz_icmp_ne 22 d_Ca_find_17 (by decide) (by omega) (by omega) (fun c_17 => ?_) (fun c_17 => ?_)
        · refine mz_inc2 d_Ca_find_22 (rfl) ?_
          refine mj_goto 2 d_Ca_find_25 (by decide) ?_
          exact ih (i + 1) (by omega) (fun j h => by
            rcases Nat.lt_or_ge j i with w | w
            · exact hj j w
            · rw [show j = i by omega]; exact c_17)
        · refine mj_iload_n d_Ca_find_20 rfl ?_
          refine mz_iret d_Ca_find_21 rfl (rfl) ?_
          exact ⟨rfl, Or.inl ⟨i, rfl, by omega, c_17, hj⟩⟩
  exact loop z 0 (by omega) (fun j h => absurd h (Nat.not_lt_zero j))
theorem m_Ca_hasSameFormula (hw : S.2.1 = 65) (hc : mj_ca S o K D n h z) {o2 n2 h2 z2 : Nat} {K2 D2 : Nat → Int} (hc2 : mj_ca S o2 K2 D2 n2 h2 z2) (hn : n ≤ 6) (hn2 : n2 ≤ 6) (hh : h ≤ 1000) (hh2 : h2 ≤ 1000) (hK : ∀ j, j < n → iR (K j)) (hK2 : ∀ j, j < n2 → iR (K2 j)) :
    mj_Met Γ d y_Ca_hasSameFormula M_Ca_hasSameFormula [.ref o, .ref o2] S 0 0 (mj_I fun r S' => S' = S ∧ ((r = 1 ∧ n = n2 ∧ h = h2 ∧ ∀ j, j < n → K j = K2 j) ∨ (r = 0 ∧ ¬ (n = n2 ∧ h = h2 ∧ ∀ j, j < n → K j = K2 j)))) := by
  obtain ⟨g1, g2, g3, g5⟩ := hc
  obtain ⟨k1, k2, k3, k5⟩ := hc2
  refine mj_Met.of (by decide) ⟨rfl, rfl⟩ rfl rfl rfl ?_
  refine mj_aload_n d_Ca_hasSameFormula_0 rfl ?_
  refine mj_get (ci := 8) (j := 2) d_Ca_hasSameFormula_1 rfl w_Ca_18 (by decide) (by omega) (by assumption) rfl ?_
  refine mj_aload_n d_Ca_hasSameFormula_4 rfl ?_
  refine mj_get (ci := 8) (j := 2) d_Ca_hasSameFormula_5 rfl w_Ca_18 (by decide) (by omega) (by assumption) rfl ?_
  refine mz_icmp_ne 22 d_Ca_hasSameFormula_8 (by decide) (by omega) (by omega) (fun c_8 => ?_) (fun c_8 => ?_)
  · refine mz_iconst d_Ca_hasSameFormula_22 ?_
    refine mz_iret d_Ca_hasSameFormula_23 rfl (rfl) ?_
    exact ⟨rfl, Or.inr ⟨rfl, fun q => c_8 (by rw [q.1])⟩⟩
  · have en : n = n2 := by omega
    subst en
    refine mj_aload_n d_Ca_hasSameFormula_11 rfl ?_
    refine mj_get (ci := 8) (j := 3) d_Ca_hasSameFormula_12 rfl w_Ca_25 (by decide) (by omega) (by assumption) rfl ?_
    refine mj_aload_n d_Ca_hasSameFormula_15 rfl ?_
    refine mj_get (ci := 8) (j := 3) d_Ca_hasSameFormula_16 rfl w_Ca_25 (by decide) (by omega) (by assumption) rfl ?_
    refine mz_icmp_eq 24 d_Ca_hasSameFormula_19 (by decide) (by omega) (by omega) (fun c_19 => ?_) (fun c_19 => ?_)
    · have eh : h = h2 := by omega
      subst eh
      refine mz_iconst d_Ca_hasSameFormula_24 ?_
      refine mz_ist2 d_Ca_hasSameFormula_25 (rfl) ?_
      have loop : ∀ (q i : Nat), i + q = n → (∀ j, j < i → K j = K2 j) → mj_Ok Γ d M_Ca_hasSameFormula 0 0 26 [.ref o, .ref o2, .int (iZ i)] [] S (mj_I fun r S' => S' = S ∧ ((r = 1 ∧ n = n ∧ h = h ∧ ∀ j, j < n → K j = K2 j) ∨ (r = 0 ∧ ¬ (n = n ∧ h = h ∧ ∀ j, j < n → K j = K2 j)))) := by
        intro q
        induction q with
        | zero =>
          intro i hi hj
          refine mj_iload_n d_Ca_hasSameFormula_26 rfl ?_
          refine mj_aload_n d_Ca_hasSameFormula_27 rfl ?_
          refine mj_get (ci := 8) (j := 2) d_Ca_hasSameFormula_28 rfl w_Ca_18 (by decide) (by omega) (by assumption) rfl ?_
          refine mz_icmp_ge 57 d_Ca_hasSameFormula_31 (by decide) (by omega) (by omega) (fun c_31 => ?_) (fun c_31 => ?_)
          · refine mz_iconst d_Ca_hasSameFormula_57 ?_
            refine mz_iret d_Ca_hasSameFormula_58 rfl (rfl) ?_
            rw [show i = n by omega] at hj
            exact ⟨rfl, Or.inl ⟨rfl, rfl, rfl, hj⟩⟩
          · omega
        | succ q ih =>
          intro i hi hj
          have r1 := hK i (by omega)
          have r2 := hK2 i (by omega)
          refine mj_iload_n d_Ca_hasSameFormula_26 rfl ?_
          refine mj_aload_n d_Ca_hasSameFormula_27 rfl ?_
          refine mj_get (ci := 8) (j := 2) d_Ca_hasSameFormula_28 rfl w_Ca_18 (by decide) (by omega) (by assumption) rfl ?_
          refine mz_icmp_ge 57 d_Ca_hasSameFormula_31 (by decide) (by omega) (by omega) (fun c_31 => ?_) (fun c_31 => ?_)
          · omega
          · refine mj_aload_n d_Ca_hasSameFormula_34 rfl ?_
            refine mj_get (ci := 8) (j := 0) d_Ca_hasSameFormula_35 rfl w_Ca_9 (by decide) (by omega) (by assumption) rfl ?_
            refine mj_iload_n d_Ca_hasSameFormula_38 rfl ?_
            refine mz_iald d_Ca_hasSameFormula_39 (by omega) (by assumption) (rfl) (by omega) ?_
            refine mj_aload_n d_Ca_hasSameFormula_40 rfl ?_
            refine mj_get (ci := 8) (j := 0) d_Ca_hasSameFormula_41 rfl w_Ca_9 (by decide) (by omega) (by assumption) rfl ?_
            refine mj_iload_n d_Ca_hasSameFormula_44 rfl ?_
            refine mz_iald d_Ca_hasSameFormula_45 (by omega) (by assumption) (rfl) (by omega) ?_
            refine mz_icmp_eq 51 d_Ca_hasSameFormula_46 (by decide) (by omega) (by omega) (fun c_46 => ?_) (fun c_46 => ?_)
            · refine mz_inc2 d_Ca_hasSameFormula_51 (rfl) ?_
              refine mj_goto 26 d_Ca_hasSameFormula_54 (by decide) ?_
              exact ih (i + 1) (by omega) (fun j h => by
                rcases Nat.lt_or_ge j i with w | w
                · exact hj j w
                · rw [show j = i by omega]; exact c_46)
            · refine mz_iconst d_Ca_hasSameFormula_49 ?_
              refine mz_iret d_Ca_hasSameFormula_50 rfl (rfl) ?_
              exact ⟨rfl, Or.inr ⟨rfl, fun q => c_46 (q.2.2 i (by omega))⟩⟩
      exact loop n 0 (by omega) (fun j h => absurd h (Nat.not_lt_zero j))
    · refine mz_iconst d_Ca_hasSameFormula_22 ?_
      refine mz_iret d_Ca_hasSameFormula_23 rfl (rfl) ?_
      exact ⟨rfl, Or.inr ⟨rfl, fun q => c_19 (by rw [q.2.1])⟩⟩
theorem m_Ca_hasFormulaOf (hw : S.2.1 = 65) (hc : mj_ca S o K D n h z) {o2 n2 : Nat} {K2 F2 B2 : Nat → Int} (hm : mj_ml S o2 n2 K2 F2 B2) (hd : 1 ≤ d) (hn : n ≤ 6) (hn2 : n2 ≤ 6) (hh : h ≤ 1000) (hK : ∀ j, j < n → iR (K j)) (hK2 : ∀ j, j < n2 → iR (K2 j)) (hF : iR (mj_sum F2 n2)) :
    mj_Met Γ d y_Ca_hasFormulaOf M_Ca_hasFormulaOf [.ref o, .ref o2] S 0 0 (mj_I fun r S' => S' = S ∧ ((r = 1 ∧ n = n2 ∧ (h : Int) = mj_sum F2 n2 ∧ ∀ j, j < n → mj_cnt K2 (K j) n = mj_cnt K (K j) n) ∨ (r = 0 ∧ ¬ (n = n2 ∧ (h : Int) = mj_sum F2 n2 ∧ ∀ j, j < n → mj_cnt K2 (K j) n = mj_cnt K (K j) n)))) := by
  obtain ⟨g1, g2, g3, g5⟩ := hc
  have hm0 := hm
  obtain ⟨k1, k2, k3, k4, k5⟩ := hm
  refine mj_Met.of (by decide) ⟨rfl, rfl⟩ rfl rfl rfl ?_
  refine mj_aload_n d_Ca_hasFormulaOf_0 rfl ?_
  refine mj_get (ci := 8) (j := 2) d_Ca_hasFormulaOf_1 rfl w_Ca_18 (by decide) (by omega) (by assumption) rfl ?_
  refine mj_aload_n d_Ca_hasFormulaOf_4 rfl ?_
  refine mj_get (ci := 4) (j := 3) d_Ca_hasFormulaOf_5 rfl w_Ca_34 (by decide) (by omega) (by assumption) rfl ?_
  refine mz_icmp_ne 22 d_Ca_hasFormulaOf_8 (by decide) (by omega) (by omega) (fun c_8 => ?_) (fun c_8 => ?_)
  · refine mz_iconst d_Ca_hasFormulaOf_22 ?_
    refine mz_iret d_Ca_hasFormulaOf_23 rfl (rfl) ?_
    exact ⟨rfl, Or.inr ⟨rfl, fun q => c_8 (by rw [q.1])⟩⟩
  · have en : n = n2 := by omega
    subst en
    refine mj_aload_n d_Ca_hasFormulaOf_11 rfl ?_
    refine mj_get (ci := 8) (j := 3) d_Ca_hasFormulaOf_12 rfl w_Ca_25 (by decide) (by omega) (by assumption) rfl ?_
    refine mj_aload_n d_Ca_hasFormulaOf_15 rfl ?_
    refine mz_callV0i (ci := 4) d_Ca_hasFormulaOf_16 (m_Ml_freeSum (d := 0) hw hm0 hn) cw_Ml_freeSum lk_Ca_37 rfl rfl (by omega) (by assumption) (by omega) rfl (fun z_16 S_16 h_16 => ?_)
    obtain ⟨rfl, rfl⟩ := h_16
    refine mz_icmp_eq 24 d_Ca_hasFormulaOf_19 (by decide) (by omega) (by omega) (fun c_19 => ?_) (fun c_19 => ?_)
    · refine mz_iconst d_Ca_hasFormulaOf_24 ?_
      refine mz_ist2 d_Ca_hasFormulaOf_25 (rfl) ?_
      have loop : ∀ (q i : Nat), i + q = n → (∀ j, j < i → mj_cnt K2 (K j) n = mj_cnt K (K j) n) → ∀ x3 : Value, x3.category = 1 → mj_Ok Γ d M_Ca_hasFormulaOf 0 0 26 [.ref o, .ref o2, .int (iZ i), x3] [] S_16 (mj_I fun r S' => S' = S_16 ∧ ((r = 1 ∧ n = n ∧ (h : Int) = mj_sum F2 n ∧ ∀ j, j < n → mj_cnt K2 (K j) n = mj_cnt K (K j) n) ∨ (r = 0 ∧ ¬ (n = n ∧ (h : Int) = mj_sum F2 n ∧ ∀ j, j < n → mj_cnt K2 (K j) n = mj_cnt K (K j) n)))) := by
        intro q
        induction q with
        | zero =>
          intro i hi hj x3 hx3
          refine mj_iload_n d_Ca_hasFormulaOf_26 rfl ?_
          refine mj_aload_n d_Ca_hasFormulaOf_27 rfl ?_
          refine mj_get (ci := 8) (j := 2) d_Ca_hasFormulaOf_28 rfl w_Ca_18 (by decide) (by omega) (by assumption) rfl ?_
          refine mz_icmp_ge 76 d_Ca_hasFormulaOf_31 (by decide) (by omega) (by omega) (fun c_31 => ?_) (fun c_31 => ?_)
          · refine mz_iconst d_Ca_hasFormulaOf_76 ?_
            refine mz_iret d_Ca_hasFormulaOf_77 rfl (rfl) ?_
            rw [show i = n by omega] at hj
            exact ⟨rfl, Or.inl ⟨rfl, rfl, c_19, hj⟩⟩
          · omega
        | succ q ih =>
          intro i hi hj x3 hx3
          have r1 := hK i (by omega)
          have l1 := mj_cnt_le K2 (K i) n
          have l2 := mj_cnt_le K (K i) n
          refine mj_iload_n d_Ca_hasFormulaOf_26 rfl ?_
          refine mj_aload_n d_Ca_hasFormulaOf_27 rfl ?_
          refine mj_get (ci := 8) (j := 2) d_Ca_hasFormulaOf_28 rfl w_Ca_18 (by decide) (by omega) (by assumption) rfl ?_
          refine mz_icmp_ge 76 d_Ca_hasFormulaOf_31 (by decide) (by omega) (by omega) (fun c_31 => ?_) (fun c_31 => ?_)
          · omega
          · refine mj_aload_n d_Ca_hasFormulaOf_34 rfl ?_
            refine mj_get (ci := 8) (j := 0) d_Ca_hasFormulaOf_35 rfl w_Ca_9 (by decide) (by omega) (by assumption) rfl ?_
            refine mj_iload_n d_Ca_hasFormulaOf_38 rfl ?_
            refine mz_iald d_Ca_hasFormulaOf_39 (by omega) (by assumption) (rfl) (by omega) ?_
            refine mz_ist3 d_Ca_hasFormulaOf_40 (by unfold mj_c1; simp only [List.all_cons, hx3]; rfl) ?_
            refine mj_iload_n d_Ca_hasFormulaOf_41 rfl ?_
            refine mj_aload_n d_Ca_hasFormulaOf_42 rfl ?_
            refine mj_get (ci := 4) (j := 0) d_Ca_hasFormulaOf_43 rfl w_Ca_41 (by decide) (by omega) (by assumption) rfl ?_
            refine mj_aload_n d_Ca_hasFormulaOf_46 rfl ?_
            refine mj_get (ci := 8) (j := 2) d_Ca_hasFormulaOf_47 rfl w_Ca_18 (by decide) (by omega) (by assumption) rfl ?_
            refine mz_callSN3i d_Ca_hasFormulaOf_50 (m_IL_occurrences (d := 0) (by omega) k2 (by omega) (by omega) r1 (fun j hj => hK2 j hj)) cw_IL_occurrences lk_Ca_42 (by omega) rfl (fun z_50 S_50 h_50 => ?_)
            obtain ⟨rfl, rfl⟩ := h_50
            refine mj_iload_n d_Ca_hasFormulaOf_53 rfl ?_
            refine mj_aload_n d_Ca_hasFormulaOf_54 rfl ?_
            refine mj_get (ci := 8) (j := 0) d_Ca_hasFormulaOf_55 rfl w_Ca_9 (by decide) (by omega) (by assumption) rfl ?_
            refine mj_aload_n d_Ca_hasFormulaOf_58 rfl ?_
            refine mj_get (ci := 8) (j := 2) d_Ca_hasFormulaOf_59 rfl w_Ca_18 (by decide) (by omega) (by assumption) rfl ?_
            refine mz_callSN3i d_Ca_hasFormulaOf_62 (m_IL_occurrences (d := 0) (by omega) g2 (by omega) (by omega) r1 (fun j hj => hK j hj)) cw_IL_occurrences lk_Ca_42 (by omega) rfl (fun z_62 S_62 h_62 => ?_)
            obtain ⟨rfl, rfl⟩ := h_62
            refine mz_icmp_eq 70 d_Ca_hasFormulaOf_65 (by decide) (by omega) (by omega) (fun c_65 => ?_) (fun c_65 => ?_)
            · refine mz_inc2 d_Ca_hasFormulaOf_70 (rfl) ?_
              refine mj_goto 26 d_Ca_hasFormulaOf_73 (by decide) ?_
              exact ih (i + 1) (by omega) (fun j h => by
                rcases Nat.lt_or_ge j i with w | w
                · exact hj j w
                · rw [show j = i by omega]; omega) _ rfl
            · refine mz_iconst d_Ca_hasFormulaOf_68 ?_
              refine mz_iret d_Ca_hasFormulaOf_69 rfl (rfl) ?_
              exact ⟨rfl, Or.inr ⟨rfl, fun q => c_65 (by rw [q.2.2 i (by omega)])⟩⟩
      exact loop n 0 (by omega) (fun j h => absurd h (Nat.not_lt_zero j)) _ rfl
    · refine mz_iconst d_Ca_hasFormulaOf_22 ?_
      refine mz_iret d_Ca_hasFormulaOf_23 rfl (rfl) ?_
      exact ⟨rfl, Or.inr ⟨rfl, fun q => c_19 q.2.1⟩⟩
/-- the atoms of a formula: m of the element e behind those that are there -/
def tk1 (e : Int) : Nat → Nat × (Nat → Int) → Nat × (Nat → Int)
  | 0, p => p
  | m + 1, p => tk1 e m (p.1 + 1, va_up p.2 p.1 e)
/-- .. of the elements 9 - m .. 8 -/
def tkA (c : Nat → Nat) : Nat → Nat × (Nat → Int) → Nat × (Nat → Int)
  | 0, p => p
  | m + 1, p => tkA c m (tk1 ((9 - (m + 1) : Nat) : Int) (c (9 - (m + 1))) p)
def tkS (c : Nat → Nat) : Nat → Nat
  | 0 => 0
  | m + 1 => c (9 - (m + 1)) + tkS c m
theorem tk1_n (e : Int) : ∀ (m : Nat) (p : Nat × (Nat → Int)), (tk1 e m p).1 = p.1 + m := by
  intro m
  induction m with
  | zero => intro p; rfl
  | succ m ih => intro p; rw [tk1, ih]; show p.1 + 1 + m = p.1 + (m + 1); omega
theorem tkA_n (c : Nat → Nat) : ∀ (m : Nat) (p : Nat × (Nat → Int)), (tkA c m p).1 = p.1 + tkS c m := by
  intro m
  induction m with
  | zero => intro p; rfl
  | succ m ih => intro p; rw [tkA, ih, tk1_n, tkS]; omega
theorem m_Ca_take (hw : S.2.1 = 65) (hc : mj_ca S o K D n h z) {a : Nat} {A : Nat → Int} {c : Nat → Nat} (ha : a < 65) (hao : a < o ∨ o + 2 < a) (he : S.1 a = .inl (0, 10, .inl (mj_z A))) (hA : ∀ j, j < 10 → A j = c j) (hs : tkS c 9 ≤ 6) (h9 : c 9 ≤ 1000) :
    mj_Met Γ d y_Ca_take M_Ca_take [.ref o, .ref a] S 0 0 (mj_V fun S' => mj_fr S S' [o, o + 1] ∧ mj_ca S' o (tkA c 9 (0, K)).2 D (tkA c 9 (0, K)).1 (c 9) 0) := by
  obtain ⟨g1, g2, g3, g5⟩ := hc
  refine mj_Met.of (by decide) ⟨rfl, rfl⟩ rfl rfl rfl ?_
  refine mj_aload_n d_Ca_take_0 rfl ?_
  refine mz_iconst d_Ca_take_1 ?_
  refine mz_put (ci := 8) (j := 2) d_Ca_take_2 rfl w_Ca_18 (by decide) rfl (by omega) (by assumption) (Nat.le_of_ble_eq_true rfl) (mj_fit_int _) rfl (fun S_2 w_2 e_2 f_2 => ?_)
  have g2 := f_2.at g2 (by simp; try omega)
  have g3 := f_2.at g3 (by simp; try omega)
  have he := f_2.at he (by simp; try omega)
  refine mj_aload_n d_Ca_take_5 rfl ?_
  refine mz_iconst d_Ca_take_6 ?_
  refine mz_put (ci := 8) (j := 4) d_Ca_take_7 rfl w_Ca_22 (by decide) rfl (by omega) (by assumption) (Nat.le_of_ble_eq_true rfl) (mj_fit_int _) rfl (fun S_7 w_7 e_7 f_7 => ?_)
  have g2 := f_7.at g2 (by simp; try omega)
  have g3 := f_7.at g3 (by simp; try omega)
  have he := f_7.at he (by simp; try omega)
  refine mj_aload_n d_Ca_take_10 rfl ?_
  refine mj_aload_n d_Ca_take_11 rfl ?_
  refine mz_bipush d_Ca_take_12 (by decide) ?_
  refine mz_iald (j := 9) d_Ca_take_14 (by omega) (by assumption) (by omega) (by omega) ?_
  rw [hA 9 (by omega)]
  refine mz_put (ci := 8) (j := 3) d_Ca_take_15 rfl w_Ca_25 (by decide) rfl (by omega) (by assumption) (Nat.le_of_ble_eq_true rfl) (mj_fit_int _) rfl (fun S_15 w_15 e_15 f_15 => ?_)
  have g2 := f_15.at g2 (by simp; try omega)
  have g3 := f_15.at g3 (by simp; try omega)
  have he := f_15.at he (by simp; try omega)
  refine mz_iconst d_Ca_take_18 ?_
  refine mz_ist2 d_Ca_take_19 (rfl) ?_
  have fr0 : mj_fr S S_15 [o, o + 1] := (f_2.tr f_7 (l := [o]) (by simp) (by simp)).tr f_15 (by simp) (by simp)
  have loop : ∀ (m : Nat) (S1 : mj_S) (p : Nat × (Nat → Int)), m ≤ 9 → p.1 + tkS c m ≤ 6 → mj_fr S S1 [o, o + 1] → S1.1 o = .inr (8, [.ref (o + 1), .ref (o + 2), .int (iZ p.1), .int (iZ (c 9)), .int (iZ 0)]) → S1.1 (o + 1) = .inl (0, 6, .inl (mj_z p.2)) → ∀ x3 : Value, x3.category = 1 →
      mj_Ok Γ d M_Ca_take 0 0 20 [.ref o, .ref a, .int (iZ ((9 - m : Nat) : Int)), x3] [] S1 (mj_V fun S' => mj_fr S S' [o, o + 1] ∧ mj_ca S' o (tkA c m p).2 D (tkA c m p).1 (c 9) 0) := by
    intro m
    induction m with
    | zero =>
      intro S1 p hm hp f1 q1 q2 x3 hx3
      refine mj_iload_n d_Ca_take_20 rfl ?_
      refine mz_bipush d_Ca_take_21 (by decide) ?_
      refine mz_icmp_ge 76 d_Ca_take_23 (by decide) (by omega) (by omega) (fun c_23 => ?_) (fun c_23 => ?_)
      · refine mz_vret d_Ca_take_76 rfl ?_
        have hw1 := f1.w
        exact ⟨f1, q1, q2, (f1.2 (o + 2) (by simp)).trans ((fr0.2 (o + 2) (by simp)).symm.trans g3), g5⟩
      · omega
    | succ m ih =>
      intro S1 p hm hp f1 q1 q2 x3 hx3
      have e9 : 9 - (m + 1) + 1 = 9 - m := by omega
      have hce : c (9 - (m + 1)) ≤ 6 := by rw [tkS] at hp; omega
      refine mj_iload_n d_Ca_take_20 rfl ?_
      refine mz_bipush d_Ca_take_21 (by decide) ?_
      refine mz_icmp_ge 76 d_Ca_take_23 (by decide) (by omega) (by omega) (fun c_23 => ?_) (fun c_23 => ?_)
      · omega
      · refine mz_iconst d_Ca_take_26 ?_
        refine mz_ist3 d_Ca_take_27 (by unfold mj_c1; simp only [List.all_cons, hx3]; rfl) ?_
        have inner : ∀ (r i : Nat) (S2 : mj_S) (p2 : Nat × (Nat → Int)), i + r = c (9 - (m + 1)) → p2.1 + r + tkS c m ≤ 6 → mj_fr S S2 [o, o + 1] → S2.1 o = .inr (8, [.ref (o + 1), .ref (o + 2), .int (iZ p2.1), .int (iZ (c 9)), .int (iZ 0)]) → S2.1 (o + 1) = .inl (0, 6, .inl (mj_z p2.2)) →
            mj_Ok Γ d M_Ca_take 0 0 28 [.ref o, .ref a, .int (iZ ((9 - (m + 1) : Nat) : Int)), .int (iZ i)] [] S2 (mj_V fun S' => mj_fr S S' [o, o + 1] ∧ mj_ca S' o (tkA c m (tk1 ((9 - (m + 1) : Nat) : Int) r p2)).2 D (tkA c m (tk1 ((9 - (m + 1) : Nat) : Int) r p2)).1 (c 9) 0) := by
          intro r
          induction r with
          | zero =>
            intro i S2 p2 hi hp2 f2 t1 t2
            have hw2 := f2.w
            have he2 : S2.1 a = .inl (0, 10, .inl (mj_z A)) := (f2.2 a (by simp; omega)).trans (by rw [← fr0.2 a (by simp; omega)]; exact he)
            have hA9 := hA (9 - (m + 1)) (by omega)
            refine mj_iload_n d_Ca_take_28 rfl ?_
            refine mj_aload_n d_Ca_take_29 rfl ?_
            refine mj_iload_n d_Ca_take_30 rfl ?_
            refine mz_iald d_Ca_take_31 (by omega) (by assumption) (rfl) (by omega) ?_
            rw [hA9]
            refine mz_icmp_ge 70 d_Ca_take_32 (by decide) (by omega) (by omega) (fun c_32 => ?_) (fun c_32 => ?_)
            · refine mz_inc2 d_Ca_take_70 (rfl) ?_
              refine mj_goto 20 d_Ca_take_73 (by decide) ?_
              have w := ih S2 p2 (by omega) (by omega) f2 t1 t2 (.int (iZ i)) rfl
              rw [← e9] at w
              exact w
            · omega
          | succ r ih2 =>
            intro i S2 p2 hi hp2 f2 t1 t2
            have hw2 := f2.w
            have he2 : S2.1 a = .inl (0, 10, .inl (mj_z A)) := (f2.2 a (by simp; omega)).trans (by rw [← fr0.2 a (by simp; omega)]; exact he)
            have hA9 := hA (9 - (m + 1)) (by omega)
            refine mj_iload_n d_Ca_take_28 rfl ?_
            refine mj_aload_n d_Ca_take_29 rfl ?_
            refine mj_iload_n d_Ca_take_30 rfl ?_
            refine mz_iald d_Ca_take_31 (by omega) (by assumption) (rfl) (by omega) ?_
            rw [hA9]
            refine mz_icmp_ge 70 d_Ca_take_32 (by decide) (by omega) (by omega) (fun c_32 => ?_) (fun c_32 => ?_)
            · omega
            · refine mj_aload_n d_Ca_take_35 rfl ?_
              refine mj_get (ci := 8) (j := 2) d_Ca_take_36 rfl w_Ca_18 (by decide) (by omega) (by assumption) rfl ?_
              refine mz_bipush d_Ca_take_39 (by decide) ?_
              refine mz_icmp_ge 70 d_Ca_take_41 (by decide) (by omega) (by omega) (fun c_41 => ?_) (fun c_41 => ?_)
              · omega
              · refine mj_aload_n d_Ca_take_44 rfl ?_
                refine mj_get (ci := 8) (j := 0) d_Ca_take_45 rfl w_Ca_9 (by decide) (by omega) (by assumption) rfl ?_
                refine mj_aload_n d_Ca_take_48 rfl ?_
                refine mj_get (ci := 8) (j := 2) d_Ca_take_49 rfl w_Ca_18 (by decide) (by omega) (by assumption) rfl ?_
                refine mj_iload_n d_Ca_take_52 rfl ?_
                refine mz_iast d_Ca_take_53 (by omega) (by assumption) (rfl) (by omega) (fun S_53 w_53 e_53 f_53 => ?_)
                have t1 := f_53.at t1 (by simp; try omega)
                refine mj_aload_n d_Ca_take_54 rfl ?_
                refine mj_dup d_Ca_take_55 rfl ?_
                refine mj_get (ci := 8) (j := 2) d_Ca_take_56 rfl w_Ca_18 (by decide) (by omega) (by assumption) rfl ?_
                refine mz_iconst d_Ca_take_59 ?_
                refine mz_iadd d_Ca_take_60 ?_
                refine mz_put (ci := 8) (j := 2) d_Ca_take_61 rfl w_Ca_18 (by decide) rfl (by omega) (by assumption) (Nat.le_of_ble_eq_true rfl) (mj_fit_int _) rfl (fun S_61 w_61 e_61 f_61 => ?_)
                have e_53 := f_61.at e_53 (by simp; try omega)
                refine mz_inc3 d_Ca_take_64 (rfl) ?_
                refine mj_goto 28 d_Ca_take_67 (by decide) ?_
                have w := ih2 (i + 1) S_61 (p2.1 + 1, va_up p2.2 p2.1 ((9 - (m + 1) : Nat) : Int)) (by omega) (by show p2.1 + 1 + r + tkS c m ≤ 6; omega) ((f2.tr f_53 (l := [o, o + 1]) (by simp) (by simp)).tr f_61 (by simp) (by simp)) e_61 e_53
                exact w
        have w := inner (c (9 - (m + 1))) 0 S1 p (by omega) (by rw [tkS] at hp; omega) f1 q1 q2
        exact w
  have w := loop 9 S_15 (0, K) (by omega) (by omega) fr0 e_15 g2 (.retAddr 0) rfl
  exact w
theorem m_Ca_copy {o2 n2 h2 z2 : Nat} {K2 D2 : Nat → Int} (hw : S.2.1 = 65) (hc : mj_ca S o K D n h z) (hc2 : mj_ca S o2 K2 D2 n2 h2 z2) (hdis : o + 2 < o2 ∨ o2 + 2 < o) (hd : 1 ≤ d) :
    mj_Met Γ d y_Ca_copy M_Ca_copy [.ref o, .ref o2] S 0 0 (mj_V fun S' => mj_fr S S' [o, o + 1, o + 2] ∧ ∃ K' D', mj_ca S' o K' D' n2 h2 z2 ∧ (∀ j, j < 6 → K' j = K2 j) ∧ ∀ j, j < 500 → D' j = D2 j) := by
  obtain ⟨a1, a2, a3, a4⟩ := hc
  obtain ⟨b1, b2, b3, b4⟩ := hc2
  refine mj_Met.of (by decide) ⟨rfl, rfl⟩ rfl rfl rfl ?_
  refine mj_aload_n d_Ca_copy_0 rfl ?_
  refine mj_aload_n d_Ca_copy_1 rfl ?_
  refine mj_get (ci := 8) (j := 2) d_Ca_copy_2 rfl w_Ca_18 (by decide) (by omega) (by assumption) rfl ?_
  refine mz_put (ci := 8) (j := 2) d_Ca_copy_5 rfl w_Ca_18 (by decide) rfl (by omega) (by assumption) (Nat.le_of_ble_eq_true rfl) (mj_fit_int _) rfl (fun S_5 w_5 e_5 f_5 => ?_)
  have b1 := f_5.at b1 (by simp; try omega)
  refine mj_aload_n d_Ca_copy_8 rfl ?_
  refine mj_aload_n d_Ca_copy_9 rfl ?_
  refine mj_get (ci := 8) (j := 3) d_Ca_copy_10 rfl w_Ca_25 (by decide) (by omega) (by assumption) rfl ?_
  refine mz_put (ci := 8) (j := 3) d_Ca_copy_13 rfl w_Ca_25 (by decide) rfl (by omega) (by assumption) (Nat.le_of_ble_eq_true rfl) (mj_fit_int _) rfl (fun S_13 w_13 e_13 f_13 => ?_)
  have b1 := f_13.at b1 (by simp; try omega)
  refine mj_aload_n d_Ca_copy_16 rfl ?_
  refine mj_aload_n d_Ca_copy_17 rfl ?_
  refine mj_get (ci := 8) (j := 4) d_Ca_copy_18 rfl w_Ca_22 (by decide) (by omega) (by assumption) rfl ?_
  refine mz_put (ci := 8) (j := 4) d_Ca_copy_21 rfl w_Ca_22 (by decide) rfl (by omega) (by assumption) (Nat.le_of_ble_eq_true rfl) (mj_fit_int _) rfl (fun S_21 w_21 e_21 f_21 => ?_)
  have b1 := f_21.at b1 (by simp; try omega)
  have f1 : mj_fr S S_21 [o] := (f_5.tr f_13 (l := [o]) (by simp) (by simp)).tr f_21 (by simp) (by simp)
  have a2 := f1.at a2 (by simp)
  have a3 := f1.at a3 (by simp)
  have b2 := f1.at b2 (by simp; omega)
  have b3 := f1.at b3 (by simp; omega)
  refine mj_aload_n d_Ca_copy_24 rfl ?_
  refine mj_get (ci := 8) (j := 0) d_Ca_copy_25 rfl w_Ca_9 (by decide) (by omega) (by assumption) rfl ?_
  refine mz_iconst d_Ca_copy_28 ?_
  refine mj_aload_n d_Ca_copy_29 rfl ?_
  refine mj_get (ci := 8) (j := 0) d_Ca_copy_30 rfl w_Ca_9 (by decide) (by omega) (by assumption) rfl ?_
  refine mz_iconst d_Ca_copy_33 ?_
  refine mz_bipush d_Ca_copy_34 (by decide) ?_
  refine mz_acopy (q := 6) d_Ca_copy_36 lk_copy (by omega) (by omega) b2 a2 (by omega) (by omega) (by omega) hd rfl (fun S_36 w_36 e_36 f_36 => ?_)
  have b1 := f_36.at b1 (by simp; omega)
  have b3 := f_36.at b3 (by simp; omega)
  have a3 := f_36.at a3 (by simp)
  have a1 := f_36.at e_21 (by simp)
  refine mj_aload_n d_Ca_copy_39 rfl ?_
  refine mj_get (ci := 8) (j := 1) d_Ca_copy_40 rfl w_Ca_15 (by decide) (by omega) (by assumption) rfl ?_
  refine mz_iconst d_Ca_copy_43 ?_
  refine mj_aload_n d_Ca_copy_44 rfl ?_
  refine mj_get (ci := 8) (j := 1) d_Ca_copy_45 rfl w_Ca_15 (by decide) (by omega) (by assumption) rfl ?_
  refine mz_iconst d_Ca_copy_48 ?_
  refine mz_sipush d_Ca_copy_49 (by decide) ?_
  refine mz_acopy (q := 500) d_Ca_copy_52 lk_copy (by omega) (by omega) b3 a3 (by omega) (by omega) (by omega) hd rfl (fun S_52 w_52 e_52 f_52 => ?_)
  refine mz_vret d_Ca_copy_55 rfl ?_
  exact ⟨(f1.tr f_36 (l := [o, o + 1]) (by simp) (by simp)).tr f_52 (by simp) (by simp), _, _, ⟨f_52.at a1 (by simp), f_52.at e_36 (by simp), e_52, a4⟩, fun j hj => if_pos hj, fun j hj => if_pos hj⟩
end CA
