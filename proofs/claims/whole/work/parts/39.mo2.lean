/-! the reference: signs, rows, bonds -/
def mo_el (c d : Int) : Int := if c = 67 ∧ d = 108 then 6 else if c = 66 then (if d = 114 then 7 else -1) else if c = 67 then 0 else if c = 78 then 1 else if c = 79 then 2 else if c = 83 then 3 else if c = 80 then 4 else if c = 70 then 5 else if c = 73 then 8 else if c = 72 then 9 else -1
theorem mo_el_S (c d : Int) : elS c d 10 (-1) = mo_el c d := by
  by_cases h1 : c = 67
  · subst h1
    by_cases h2 : d = 108
    · subst h2; decide
    · simp [elS, mj_FST, mj_SND, mo_el, h2, Ne.symm h2]
  · by_cases h2 : c = 66
    · subst h2
      by_cases h3 : d = 114
      · subst h3; decide
      · simp [elS, mj_FST, mj_SND, mo_el, h3, Ne.symm h3]
    · by_cases h3 : c = 78
      · subst h3; simp [elS, mj_FST, mj_SND, mo_el]
      · by_cases h4 : c = 79
        · subst h4; simp [elS, mj_FST, mj_SND, mo_el]
        · by_cases h5 : c = 83
          · subst h5; simp [elS, mj_FST, mj_SND, mo_el]
          · by_cases h6 : c = 80
            · subst h6; simp [elS, mj_FST, mj_SND, mo_el]
            · by_cases h7 : c = 70
              · subst h7; simp [elS, mj_FST, mj_SND, mo_el]
              · by_cases h8 : c = 73
                · subst h8; simp [elS, mj_FST, mj_SND, mo_el]
                · by_cases h9 : c = 72
                  · subst h9; simp [elS, mj_FST, mj_SND, mo_el]
                  · simp [elS, mj_FST, mj_SND, mo_el, h1, h2, h3, h4, h5, h6, h7, h8, h9, Ne.symm h1, Ne.symm h2, Ne.symm h3, Ne.symm h4, Ne.symm h5, Ne.symm h6, Ne.symm h7, Ne.symm h8, Ne.symm h9]
theorem mo_el_at (n : Nat) (C : Nat → Int) (k : Int) : mo_el (mo_at n C k) (mo_at n C (k + 1)) = ln_el n C k := by
  unfold ln_el
  rw [mo_el_S]
  unfold mo_at ln_at
  by_cases h1 : 0 ≤ k ∧ k < n
  · rw [if_pos h1, if_pos h1]
    by_cases h2 : 0 ≤ k + 1 ∧ k + 1 < n
    · rw [if_pos h2, if_pos h2]
    · rw [if_neg h2, if_neg h2]
      simp [mo_el]
  · rw [if_neg h1, if_neg h1]
    simp [mo_el]
/-- the bond of two atoms in the list -/
def mo_bd (T : Nat → Int) (i a b : Nat) : Int := if a = b then 0 else T (15 * i + if b < a then pr a b else pr b a)
theorem mj_rw_mono {B ch ch' : Nat → Nat} {a a' : Nat} (ha : a' < 6) (hB : ∀ j, j < 36 → B j < 4) {j : Nat} : ∀ m, (∀ i, i < j + m → ch' i < 6) → mj_rw B ch' a' j < mj_rw B ch a j → mj_rw B ch' a' (j + m) < mj_rw B ch a (j + m) := by
  intro m
  induction m with
  | zero => intro _ h; exact h
  | succ m ih =>
    intro hc h
    have h1 := ih (fun i hi => hc i (by omega)) h
    have h2 := hB (a' * 6 + ch' (j + m)) (by have := hc (j + m) (by omega); omega)
    rw [← Nat.add_assoc, mj_rw, mj_rw]
    omega
section MO2
variable {Γ : mj_G} {d L n : Nat} {S : mj_S} {C : Nat → Int} {rf sz wr am hy sr tr rs fo sg : Int}
theorem m_Mo_elementAt (hw : S.2.1 = 65) (h : mo_st S rf L wr am hy sr tr rs fo sg) (hl : mj_lc S C) (hL : L ≤ 60) {k : Int} (hk : -1000 ≤ k ∧ k ≤ 1000) (hd : 1 ≤ d) : mj_Met Γ d y_Mo_elementAt M_Mo_elementAt [.ref 40, .int (iZ k)] S 0 0 (mj_I fun z S' => S' = S ∧ z = ln_el L C k) := by
  have h1 : S.1 40 = _ := h
  rw [← mo_el_at]
  obtain ⟨c, hc⟩ : ∃ c, c = mo_at L C k := ⟨_, rfl⟩
  obtain ⟨e, he⟩ : ∃ e, e = mo_at L C (k + 1) := ⟨_, rfl⟩
  have rc := mo_at_r (n := L) hl.2 k
  have re := mo_at_r (n := L) hl.2 (k + 1)
  rw [← hc] at rc
  rw [← he] at re
  rw [← hc, ← he]
  refine mj_Met.of (by decide) ⟨rfl, rfl⟩ rfl rfl rfl ?_
  refine mj_aload_n d_Mo_elementAt_0 rfl ?_
  refine mj_iload_n d_Mo_elementAt_1 rfl ?_
  refine mz_callV1i (ci := 9) d_Mo_elementAt_2 (m_Mo_at (d := 0) hw h hl hL (by omega)) cw_Mo_at lk_Mo_95 rfl rfl (by omega) (by assumption) (by omega) rfl (fun z_2 S_2 h_2 => ?_)
  obtain ⟨rfl, hz⟩ := h_2
  rw [← hc] at hz
  subst hz
  refine mz_ist2 d_Mo_elementAt_5 (rfl) ?_
  refine mj_aload_n d_Mo_elementAt_6 rfl ?_
  refine mj_iload_n d_Mo_elementAt_7 rfl ?_
  refine mz_iconst d_Mo_elementAt_8 ?_
  refine mz_iadd d_Mo_elementAt_9 ?_
  refine mz_callV1i (ci := 9) d_Mo_elementAt_10 (m_Mo_at (d := 0) hw h hl hL (by omega)) cw_Mo_at lk_Mo_95 rfl rfl (by omega) (by assumption) (by omega) rfl (fun z_10 S_10 h_10 => ?_)
  have h_10 : S_10 = S_2 ∧ z_10 = mo_at L C (k + 1) := h_10
  obtain ⟨rfl, hz⟩ := h_10
  rw [← he] at hz
  subst hz
  have t29 : ¬ (z_2 = 67 ∧ z_10 = 108) → mj_Ok Γ d M_Mo_elementAt 0 0 29 [.ref 40, .int (iZ k), .int (iZ z_2), .int (iZ z_10)] [] S_10 (mj_I fun z S' => S' = S_10 ∧ z = mo_el z_2 z_10) := by
    intro q
    unfold mo_el
    rw [if_neg q]
    refine mj_iload_n d_Mo_elementAt_29 rfl ?_
    refine mz_bipush d_Mo_elementAt_30 (by decide) ?_
    refine mz_icmp_ne 48 d_Mo_elementAt_32 (by decide) (by omega) (by omega) (fun c_32 => ?_) (fun c_32 => ?_)
    · rw [if_neg c_32]
      refine mj_iload_n d_Mo_elementAt_48 rfl ?_
      refine mz_bipush d_Mo_elementAt_49 (by decide) ?_
      refine mz_icmp_ne 58 d_Mo_elementAt_51 (by decide) (by omega) (by omega) (fun c_51 => ?_) (fun c_51 => ?_)
      · rw [if_neg c_51]
        refine mj_iload_n d_Mo_elementAt_58 rfl ?_
        refine mz_bipush d_Mo_elementAt_59 (by decide) ?_
        refine mz_icmp_ne 68 d_Mo_elementAt_61 (by decide) (by omega) (by omega) (fun c_61 => ?_) (fun c_61 => ?_)
        · rw [if_neg c_61]
          refine mj_iload_n d_Mo_elementAt_68 rfl ?_
          refine mz_bipush d_Mo_elementAt_69 (by decide) ?_
          refine mz_icmp_ne 78 d_Mo_elementAt_71 (by decide) (by omega) (by omega) (fun c_71 => ?_) (fun c_71 => ?_)
          · rw [if_neg c_71]
            refine mj_iload_n d_Mo_elementAt_78 rfl ?_
            refine mz_bipush d_Mo_elementAt_79 (by decide) ?_
            refine mz_icmp_ne 88 d_Mo_elementAt_81 (by decide) (by omega) (by omega) (fun c_81 => ?_) (fun c_81 => ?_)
            · rw [if_neg c_81]
              refine mj_iload_n d_Mo_elementAt_88 rfl ?_
              refine mz_bipush d_Mo_elementAt_89 (by decide) ?_
              refine mz_icmp_ne 98 d_Mo_elementAt_91 (by decide) (by omega) (by omega) (fun c_91 => ?_) (fun c_91 => ?_)
              · rw [if_neg c_91]
                refine mj_iload_n d_Mo_elementAt_98 rfl ?_
                refine mz_bipush d_Mo_elementAt_99 (by decide) ?_
                refine mz_icmp_ne 108 d_Mo_elementAt_101 (by decide) (by omega) (by omega) (fun c_101 => ?_) (fun c_101 => ?_)
                · rw [if_neg c_101]
                  refine mj_iload_n d_Mo_elementAt_108 rfl ?_
                  refine mz_bipush d_Mo_elementAt_109 (by decide) ?_
                  refine mz_icmp_ne 119 d_Mo_elementAt_111 (by decide) (by omega) (by omega) (fun c_111 => ?_) (fun c_111 => ?_)
                  · rw [if_neg c_111]
                    refine mj_iload_n d_Mo_elementAt_119 rfl ?_
                    refine mz_bipush d_Mo_elementAt_120 (by decide) ?_
                    refine mz_icmp_ne 130 d_Mo_elementAt_122 (by decide) (by omega) (by omega) (fun c_122 => ?_) (fun c_122 => ?_)
                    · rw [if_neg c_122]
                      refine mz_iconst d_Mo_elementAt_130 ?_
                      refine mz_iret d_Mo_elementAt_131 rfl (rfl) ?_
                      exact ⟨rfl, rfl⟩
                    · rw [if_pos c_122]
                      refine mz_bipush d_Mo_elementAt_125 (by decide) ?_
                      refine mj_goto 131 d_Mo_elementAt_127 (by decide) ?_
                      refine mz_iret d_Mo_elementAt_131 rfl (rfl) ?_
                      exact ⟨rfl, rfl⟩
                  · rw [if_pos c_111]
                    refine mz_bipush d_Mo_elementAt_114 (by decide) ?_
                    refine mj_goto 131 d_Mo_elementAt_116 (by decide) ?_
                    refine mz_iret d_Mo_elementAt_131 rfl (rfl) ?_
                    exact ⟨rfl, rfl⟩
                · rw [if_pos c_101]
                  refine mz_iconst d_Mo_elementAt_104 ?_
                  refine mj_goto 131 d_Mo_elementAt_105 (by decide) ?_
                  refine mz_iret d_Mo_elementAt_131 rfl (rfl) ?_
                  exact ⟨rfl, rfl⟩
              · rw [if_pos c_91]
                refine mz_iconst d_Mo_elementAt_94 ?_
                refine mj_goto 131 d_Mo_elementAt_95 (by decide) ?_
                refine mz_iret d_Mo_elementAt_131 rfl (rfl) ?_
                exact ⟨rfl, rfl⟩
            · rw [if_pos c_81]
              refine mz_iconst d_Mo_elementAt_84 ?_
              refine mj_goto 131 d_Mo_elementAt_85 (by decide) ?_
              refine mz_iret d_Mo_elementAt_131 rfl (rfl) ?_
              exact ⟨rfl, rfl⟩
          · rw [if_pos c_71]
            refine mz_iconst d_Mo_elementAt_74 ?_
            refine mj_goto 131 d_Mo_elementAt_75 (by decide) ?_
            refine mz_iret d_Mo_elementAt_131 rfl (rfl) ?_
            exact ⟨rfl, rfl⟩
        · rw [if_pos c_61]
          refine mz_iconst d_Mo_elementAt_64 ?_
          refine mj_goto 131 d_Mo_elementAt_65 (by decide) ?_
          refine mz_iret d_Mo_elementAt_131 rfl (rfl) ?_
          exact ⟨rfl, rfl⟩
      · rw [if_pos c_51]
        refine mz_iconst d_Mo_elementAt_54 ?_
        refine mj_goto 131 d_Mo_elementAt_55 (by decide) ?_
        refine mz_iret d_Mo_elementAt_131 rfl (rfl) ?_
        exact ⟨rfl, rfl⟩
    · rw [if_pos c_32]
      refine mj_iload_n d_Mo_elementAt_35 rfl ?_
      refine mz_bipush d_Mo_elementAt_36 (by decide) ?_
      refine mz_icmp_ne 46 d_Mo_elementAt_38 (by decide) (by omega) (by omega) (fun c_38 => ?_) (fun c_38 => ?_)
      · refine mz_iconst d_Mo_elementAt_46 ?_
        refine mz_iret d_Mo_elementAt_47 rfl (rfl) ?_
        exact ⟨rfl, by rw [if_neg c_38]⟩
      · refine mz_bipush d_Mo_elementAt_41 (by decide) ?_
        refine mj_goto 47 d_Mo_elementAt_43 (by decide) ?_
        refine mz_iret d_Mo_elementAt_47 rfl (rfl) ?_
        exact ⟨rfl, by rw [if_pos c_38]⟩
  refine mz_ist3 d_Mo_elementAt_13 (rfl) ?_
  refine mj_iload_n d_Mo_elementAt_14 rfl ?_
  refine mz_bipush d_Mo_elementAt_15 (by decide) ?_
  refine mz_icmp_ne 29 d_Mo_elementAt_17 (by decide) (by omega) (by omega) (fun c_17 => ?_) (fun c_17 => ?_)
  · exact t29 (by omega)
  · refine mj_iload_n d_Mo_elementAt_20 rfl ?_
    refine mz_bipush d_Mo_elementAt_21 (by decide) ?_
    refine mz_icmp_ne 29 d_Mo_elementAt_23 (by decide) (by omega) (by omega) (fun c_23 => ?_) (fun c_23 => ?_)
    · exact t29 (by omega)
    · refine mz_bipush d_Mo_elementAt_26 (by decide) ?_
      refine mz_iret d_Mo_elementAt_28 rfl (rfl) ?_
      exact ⟨rfl, by unfold mo_el; rw [if_pos ⟨c_17, c_23⟩]⟩
theorem m_Mo_change {F : Nat → Int} (hw : S.2.1 = 65) (h : mo_st S rf sz wr am hy sr tr rs fo sg) (hF : S.1 46 = .inl (0, 6, .inl (mj_z F))) {a b : Nat} (ha : a < 6) (hb : b < a) {k v : Int} (hk : k = pr a b) (hd : 2 ≤ d) : mj_Met Γ d y_Mo_change M_Mo_change [.ref 40, .int (iZ k), .int (iZ v)] S 0 0 (mj_V fun S' => mj_fr S S' [40, 46] ∧ mo_st S' rf sz wr am hy sr tr (rs - v) fo sg ∧ S'.1 46 = .inl (0, 6, .inl (mj_z (mset F a b v)))) := by
  have h1 : S.1 40 = _ := h
  refine mj_Met.of (by decide) ⟨rfl, rfl⟩ rfl rfl rfl ?_
  refine mj_aload_n d_Mo_change_0 rfl ?_
  refine mj_get (ci := 9) (j := 12) d_Mo_change_1 rfl w_Mo_30 (by decide) (by omega) (by assumption) rfl ?_
  refine mj_iload_n d_Mo_change_4 rfl ?_
  refine mz_callS1i d_Mo_change_5 (m_Mo_upper (d := 0) ha hb hk) cw_Mo_upper lk_Mo_138 (by omega) rfl (fun z_5 S_5 h_5 => ?_)
  obtain ⟨rfl, rfl⟩ := h_5
  refine mj_aload_n d_Mo_change_8 rfl ?_
  refine mj_get (ci := 9) (j := 12) d_Mo_change_9 rfl w_Mo_30 (by decide) (by omega) (by assumption) rfl ?_
  refine mj_iload_n d_Mo_change_12 rfl ?_
  refine mz_callS1i d_Mo_change_13 (m_Mo_upper (d := 0) ha hb hk) cw_Mo_upper lk_Mo_138 (by omega) rfl (fun z_13 S_13 h_13 => ?_)
  obtain ⟨rfl, rfl⟩ := h_13
  refine mz_iald (j := a) d_Mo_change_16 (by omega) (by assumption) (by omega) (by omega) ?_
  refine mj_iload_n d_Mo_change_17 rfl ?_
  refine mz_isub d_Mo_change_18 ?_
  refine mz_iast (j := a) d_Mo_change_19 (by omega) (by assumption) (by omega) (by omega) (fun S_19 w_19 e_19 f_19 => ?_)
  have h1 := f_19.at h1 (by simp)
  refine mj_aload_n d_Mo_change_20 rfl ?_
  refine mj_get (ci := 9) (j := 12) d_Mo_change_21 rfl w_Mo_30 (by decide) (by omega) (by assumption) rfl ?_
  refine mj_iload_n d_Mo_change_24 rfl ?_
  refine mz_callS1i d_Mo_change_25 (m_Mo_lower (d := 1) ha hb hk (by omega)) cw_Mo_lower lk_Mo_141 (by omega) rfl (fun z_25 S_25 h_25 => ?_)
  obtain ⟨rfl, rfl⟩ := h_25
  refine mj_aload_n d_Mo_change_28 rfl ?_
  refine mj_get (ci := 9) (j := 12) d_Mo_change_29 rfl w_Mo_30 (by decide) (by omega) (by assumption) rfl ?_
  refine mj_iload_n d_Mo_change_32 rfl ?_
  refine mz_callS1i d_Mo_change_33 (m_Mo_lower (d := 1) ha hb hk (by omega)) cw_Mo_lower lk_Mo_141 (by omega) rfl (fun z_33 S_33 h_33 => ?_)
  obtain ⟨rfl, rfl⟩ := h_33
  refine mz_iald (j := b) d_Mo_change_36 (by omega) (by assumption) (by omega) (by omega) ?_
  refine mj_iload_n d_Mo_change_37 rfl ?_
  refine mz_isub d_Mo_change_38 ?_
  refine mz_iast (j := b) d_Mo_change_39 (by omega) (by assumption) (by omega) (by omega) (fun S_39 w_39 e_39 f_39 => ?_)
  rw [va_up_ne _ _ (show b ≠ a by omega)] at e_39
  have h1 := f_39.at h1 (by simp)
  refine mj_aload_n d_Mo_change_40 rfl ?_
  refine mj_aload_n d_Mo_change_41 rfl ?_
  refine mj_get (ci := 9) (j := 13) d_Mo_change_42 rfl w_Mo_123 (by decide) (by omega) (by assumption) rfl ?_
  refine mj_iload_n d_Mo_change_45 rfl ?_
  refine mz_isub d_Mo_change_46 ?_
  refine mz_put (ci := 9) (j := 13) d_Mo_change_47 rfl w_Mo_123 (by decide) rfl (by omega) (by assumption) (Nat.le_of_ble_eq_true rfl) (mj_fit_int _) rfl (fun S_47 w_47 e_47 f_47 => ?_)
  refine mz_vret d_Mo_change_50 rfl ?_
  exact ⟨(f_19.tr f_39 (l := [40, 46]) (by simp) (by simp)).tr f_47 (by simp) (by simp), e_47, f_47.at e_39 (by simp)⟩
theorem m_Mo_row {Nb Cd : Nat → Int} {ch cd B : Nat → Nat} {k : Nat} (hw : S.2.1 = 65) (h : mo_st S rf sz wr am hy sr tr rs fo sg) (h46 : S.1 49 = .inl (0, 7, .inl (mj_z Nb))) (h42 : S.1 45 = .inl (0, 15, .inl (mj_z Cd))) (hk : k < 6) (hN : ∀ j, j ≤ k → Nb j = ch j ∧ ch j < 6) (hne : ∀ j, j < k → ch j ≠ ch k) (hC : ∀ j, j < 15 → Cd j = cd j) (hcB : ∀ a b, a < 6 → b < a → B (a * 6 + b) = cd (pr a b) ∧ B (b * 6 + a) = cd (pr a b)) (hB : ∀ j, j < 36 → B j < 4) (hd : 1 ≤ d) :
    mj_Met Γ d y_Mo_row M_Mo_row [.ref 40, .int (iZ k)] S 0 0 (mj_I fun z S' => S' = S ∧ ((z = 0 ∧ mj_rw B ch (ch k) k = mj_rw B (fun j => j) k k) ∨ (z = 1 ∧ mj_rw B (fun j => j) k k < mj_rw B ch (ch k) k) ∨ (z = -1 ∧ mj_rw B ch (ch k) k < mj_rw B (fun j => j) k k))) := by
  have h1 : S.1 40 = _ := h
  have cdl : ∀ a b, a < 6 → b < a → cd (pr a b) < 4 := fun a b ha hb => by rw [← (hcB a b ha hb).1]; exact hB _ (by omega)
  refine mj_Met.of (by decide) ⟨rfl, rfl⟩ rfl rfl rfl ?_
  refine mz_iconst d_Mo_row_0 ?_
  refine mz_ist2 d_Mo_row_1 (rfl) ?_
  have loop : ∀ (q j : Nat) (x y : Value), (x.category == 1) = true → (y.category == 1) = true → j + q = k → mj_rw B ch (ch k) j = mj_rw B (fun j => j) k j → mj_Ok Γ d M_Mo_row 0 0 2 [.ref 40, .int (iZ k), .int (iZ j), x, y] [] S (mj_I fun z S' => S' = S ∧ ((z = 0 ∧ mj_rw B ch (ch k) k = mj_rw B (fun j => j) k k) ∨ (z = 1 ∧ mj_rw B (fun j => j) k k < mj_rw B ch (ch k) k) ∨ (z = -1 ∧ mj_rw B ch (ch k) k < mj_rw B (fun j => j) k k))) := by
    intro q
    induction q with
    | zero =>
      intro j x y hx hy2 hj he
      have : j = k := by omega
      subst this
      refine mj_iload_n d_Mo_row_2 rfl ?_
      refine mj_iload_n d_Mo_row_3 rfl ?_
      refine mz_icmp_ge 64 d_Mo_row_4 (by decide) (by omega) (by omega) (fun c_4 => ?_) (fun c_4 => ?_)
      · refine mz_iconst d_Mo_row_64 ?_
        refine mz_iret d_Mo_row_65 rfl (rfl) ?_
        exact ⟨rfl, Or.inl ⟨rfl, he⟩⟩
      · omega
    | succ q ih =>
      intro j x y hx hy2 hj he
      have nk := hN k (by omega)
      have nj := hN j (by omega)
      have ne := hne j (by omega)
      have hv : ∃ v : Nat, v = cd (if ch j < ch k then pr (ch k) (ch j) else pr (ch j) (ch k)) ∧ v = B (ch k * 6 + ch j) ∧ (if ch j < ch k then pr (ch k) (ch j) else pr (ch j) (ch k)) < 15 ∧ v < 4 := by
        by_cases q1 : ch j < ch k
        · rw [if_pos q1]
          exact ⟨_, rfl, (hcB _ _ nk.2 q1).1.symm, pr_lt _ nk.2 _ q1, cdl _ _ nk.2 q1⟩
        · rw [if_neg q1]
          have q2 : ch k < ch j := by omega
          exact ⟨_, rfl, (hcB _ _ nj.2 q2).2.symm, pr_lt _ nj.2 _ q2, cdl _ _ nj.2 q2⟩
      obtain ⟨v, v1, v2, v3, v4⟩ := hv
      obtain ⟨pv, hpv⟩ : ∃ pv, pv = (if ch j < ch k then pr (ch k) (ch j) else pr (ch j) (ch k)) := ⟨_, rfl⟩
      rw [← hpv] at v1 v3
      have hw2 := (hcB k j hk (by omega)).1
      have hp2 := pr_lt k hk j (by omega)
      have hc1 := hC pv v3
      have hc2 := hC _ hp2
      have cl2 := cdl k j hk (by omega)
      have he1 : mj_rw B ch (ch k) (j + 1) = mj_rw B ch (ch k) j * 4 + v := by rw [mj_rw, v2]
      have he2 : mj_rw B (fun j => j) k (j + 1) = mj_rw B (fun j => j) k j * 4 + cd (pr k j) := by rw [mj_rw, hw2]
      have ek : j + 1 + q = k := by omega
      refine mj_iload_n d_Mo_row_2 rfl ?_
      refine mj_iload_n d_Mo_row_3 rfl ?_
      refine mz_icmp_ge 64 d_Mo_row_4 (by decide) (by omega) (by omega) (fun c_4 => ?_) (fun c_4 => ?_)
      · omega
      · refine mj_aload_n d_Mo_row_7 rfl ?_
        refine mj_get (ci := 9) (j := 11) d_Mo_row_8 rfl w_Mo_27 (by decide) (by omega) (by assumption) rfl ?_
        refine mj_aload_n d_Mo_row_11 rfl ?_
        refine mj_get (ci := 9) (j := 17) d_Mo_row_12 rfl w_Mo_39 (by decide) (by omega) (by assumption) rfl ?_
        refine mj_iload_n d_Mo_row_15 rfl ?_
        refine mz_iald (j := k) d_Mo_row_16 (by omega) (by assumption) (by omega) (by omega) ?_
        refine mj_aload_n d_Mo_row_17 rfl ?_
        refine mj_get (ci := 9) (j := 17) d_Mo_row_18 rfl w_Mo_39 (by decide) (by omega) (by assumption) rfl ?_
        refine mj_iload_n d_Mo_row_21 rfl ?_
        refine mz_iald (j := j) d_Mo_row_22 (by omega) (by assumption) (by omega) (by omega) ?_
        rw [nk.1, nj.1]
        refine mz_callS2i d_Mo_row_23 (m_Mo_pair (d := 0) nk.2 nj.2) cw_Mo_pair lk_Mo_164 (by omega) rfl (fun z_23 S_23 h_23 => ?_)
        obtain ⟨rfl, hz⟩ := h_23
        have hz : z_23 = (pv : Int) := by rw [hz, hpv]; split <;> rfl
        refine mz_iald (j := pv) d_Mo_row_26 (by omega) (by assumption) (by omega) (by omega) ?_
        refine mz_ist3 d_Mo_row_27 (by unfold mj_c1; simp only [List.all_cons, hx, hy2]; rfl) ?_
        refine mj_aload_n d_Mo_row_28 rfl ?_
        refine mj_get (ci := 9) (j := 11) d_Mo_row_29 rfl w_Mo_27 (by decide) (by omega) (by assumption) rfl ?_
        refine mj_iload_n d_Mo_row_32 rfl ?_
        refine mj_iload_n d_Mo_row_33 rfl ?_
        refine mz_callS2i d_Mo_row_34 (m_Mo_pair (d := 0) hk (by omega)) cw_Mo_pair lk_Mo_164 (by omega) rfl (fun z_34 S_34 h_34 => ?_)
        have h_34 : S_34 = S_23 ∧ z_34 = _ := h_34
        obtain ⟨rfl, hz2⟩ := h_34
        rw [if_pos (show j < k by omega)] at hz2
        rw [hc1, ← v1]
        refine mz_iald (j := pr k j) d_Mo_row_37 (by omega) (by assumption) (by omega) (by omega) ?_
        refine mz_ist4 d_Mo_row_38 (by unfold mj_c1; simp only [List.all_cons, hy2]; rfl) ?_
        rw [hc2]
        refine mj_iload_n d_Mo_row_40 rfl ?_
        refine mj_iload d_Mo_row_41 rfl ?_
        refine mz_icmp_eq 58 d_Mo_row_43 (by decide) (by omega) (by omega) (fun c_43 => ?_) (fun c_43 => ?_)
        · refine mz_inc2 d_Mo_row_58 (rfl) ?_
          refine mj_goto 2 d_Mo_row_61 (by decide) ?_
          have w := ih (j + 1) (.int (iZ v)) (.int (iZ (cd (pr k j) : Nat))) rfl rfl (by omega) (by rw [he1, he2, he]; omega)
          rw [show ((j + 1 : Nat) : Int) = (j : Int) + 1 by omega] at w
          exact w
        · refine mj_iload_n d_Mo_row_46 rfl ?_
          refine mj_iload d_Mo_row_47 rfl ?_
          refine mz_icmp_le 56 d_Mo_row_49 (by decide) (by omega) (by omega) (fun c_49 => ?_) (fun c_49 => ?_)
          · refine mz_iconst d_Mo_row_56 ?_
            refine mz_iret d_Mo_row_57 rfl (rfl) ?_
            refine ⟨rfl, Or.inr (Or.inr ⟨rfl, ?_⟩)⟩
            have w := mj_rw_mono (B := B) (ch := fun j => j) (ch' := ch) (a := k) (a' := ch k) (j := j + 1) nk.2 hB q (fun i hi => (hN i (by omega)).2) (by rw [he1, he2, he]; omega)
            rw [ek] at w
            exact w
          · refine mz_iconst d_Mo_row_52 ?_
            refine mj_goto 57 d_Mo_row_53 (by decide) ?_
            refine mz_iret d_Mo_row_57 rfl (rfl) ?_
            refine ⟨rfl, Or.inr (Or.inl ⟨rfl, ?_⟩)⟩
            have w := mj_rw_mono (B := B) (ch := ch) (ch' := fun j => j) (a := ch k) (a' := k) (j := j + 1) hk hB q (fun i hi => by show i < 6; omega) (by rw [he1, he2, he]; omega)
            rw [ek] at w
            exact w
  exact loop k 0 _ _ rfl rfl (by omega) rfl
theorem m_Mo_sumOf {B : Nat → Int} {a m : Nat} (hw : S.2.1 = 65) (h : mo_st S rf sz wr am hy sr tr rs fo m) (hB : S.1 52 = .inl (0, 36, .inl (mj_z B))) (ha : a < 6) (hm : m ≤ 6) :
    mj_Met Γ d y_Mo_sumOf M_Mo_sumOf [.ref 40, .int (iZ a)] S 0 0 (mj_I fun z S' => S' = S ∧ z = mj_sum (fun y => B (a * 6 + y)) m) := by
  have h1 : S.1 40 = _ := h
  refine mj_Met.of (by decide) ⟨rfl, rfl⟩ rfl rfl rfl ?_
  refine mz_iconst d_Mo_sumOf_0 ?_
  refine mz_ist2 d_Mo_sumOf_1 (rfl) ?_
  refine mz_iconst d_Mo_sumOf_2 ?_
  refine mz_ist3 d_Mo_sumOf_3 (rfl) ?_
  have loop : ∀ (q j : Nat), j + q = m → mj_Ok Γ d M_Mo_sumOf 0 0 4 [.ref 40, .int (iZ a), .int (iZ (mj_sum (fun y => B (a * 6 + y)) j)), .int (iZ j)] [] S (mj_I fun z S' => S' = S ∧ z = mj_sum (fun y => B (a * 6 + y)) m) := by
    intro q
    induction q with
    | zero =>
      intro j hj
      have : j = m := by omega
      subst this
      refine mj_iload_n d_Mo_sumOf_4 rfl ?_
      refine mj_aload_n d_Mo_sumOf_5 rfl ?_
      refine mj_get (ci := 9) (j := 19) d_Mo_sumOf_6 rfl w_Mo_167 (by decide) (by omega) (by assumption) rfl ?_
      refine mz_icmp_ge 32 d_Mo_sumOf_9 (by decide) (by omega) (by omega) (fun c_9 => ?_) (fun c_9 => ?_)
      · refine mj_iload_n d_Mo_sumOf_32 rfl ?_
        refine mz_iret d_Mo_sumOf_33 rfl (rfl) ?_
        exact ⟨rfl, rfl⟩
      · omega
    | succ q ih =>
      intro j hj
      refine mj_iload_n d_Mo_sumOf_4 rfl ?_
      refine mj_aload_n d_Mo_sumOf_5 rfl ?_
      refine mj_get (ci := 9) (j := 19) d_Mo_sumOf_6 rfl w_Mo_167 (by decide) (by omega) (by assumption) rfl ?_
      refine mz_icmp_ge 32 d_Mo_sumOf_9 (by decide) (by omega) (by omega) (fun c_9 => ?_) (fun c_9 => ?_)
      · omega
      · refine mj_iload_n d_Mo_sumOf_12 rfl ?_
        refine mj_aload_n d_Mo_sumOf_13 rfl ?_
        refine mj_get (ci := 9) (j := 21) d_Mo_sumOf_14 rfl w_Mo_49 (by decide) (by omega) (by assumption) rfl ?_
        refine mz_bipush d_Mo_sumOf_17 (by decide) ?_
        refine mj_iload_n d_Mo_sumOf_19 rfl ?_
        refine mz_imul d_Mo_sumOf_20 ?_
        refine mj_iload_n d_Mo_sumOf_21 rfl ?_
        refine mz_iadd d_Mo_sumOf_22 ?_
        refine mz_iald (j := a * 6 + j) d_Mo_sumOf_23 (by omega) (by assumption) (by omega) (by omega) ?_
        refine mz_iadd d_Mo_sumOf_24 ?_
        refine mz_ist2 d_Mo_sumOf_25 (rfl) ?_
        refine mz_inc3 d_Mo_sumOf_26 (rfl) ?_
        refine mj_goto 4 d_Mo_sumOf_29 (by decide) ?_
        have w := ih (j + 1) (by omega)
        rw [show ((j + 1 : Nat) : Int) = (j : Int) + 1 by omega] at w
        exact w
  exact loop m 0 (by omega)
theorem m_Mo_bondOf {T : Nat → Int} {i a b : Nat} (hw : S.2.1 = 65) (h : mo_st S rf sz wr am hy sr tr rs fo sg) (hT : S.1 43 = .inl (0, 7500, .inl (mj_z T))) (hi : i < 500) (ha : a < 6) (hb : b < 6) (hd : 1 ≤ d) :
    mj_Met Γ d y_Mo_bondOf M_Mo_bondOf [.ref 40, .int (iZ i), .int (iZ a), .int (iZ b)] S 0 0 (mj_I fun z S' => S' = S ∧ z = mo_bd T i a b) := by
  have h1 : S.1 40 = _ := h
  refine mj_Met.of (by decide) ⟨rfl, rfl⟩ rfl rfl rfl ?_
  refine mj_iload_n d_Mo_bondOf_0 rfl ?_
  refine mj_iload_n d_Mo_bondOf_1 rfl ?_
  refine mz_icmp_ne 9 d_Mo_bondOf_2 (by decide) (by omega) (by omega) (fun c_2 => ?_) (fun c_2 => ?_)
  · have hp : (if b < a then pr a b else pr b a) < 15 := by
      split
      · exact pr_lt a ha b (by omega)
      · exact pr_lt b hb a (by omega)
    refine mj_aload_n d_Mo_bondOf_9 rfl ?_
    refine mj_get (ci := 9) (j := 8) d_Mo_bondOf_10 rfl w_Mo_21 (by decide) (by omega) (by assumption) rfl ?_
    refine mz_bipush d_Mo_bondOf_13 (by decide) ?_
    refine mj_iload_n d_Mo_bondOf_15 rfl ?_
    refine mz_imul d_Mo_bondOf_16 ?_
    refine mj_iload_n d_Mo_bondOf_17 rfl ?_
    refine mj_iload_n d_Mo_bondOf_18 rfl ?_
    refine mz_callS2i d_Mo_bondOf_19 (m_Mo_pair (d := 0) ha hb) cw_Mo_pair lk_Mo_164 (by omega) rfl (fun z_19 S_19 h_19 => ?_)
    obtain ⟨rfl, hz⟩ := h_19
    have hz : z_19 = ((if b < a then pr a b else pr b a : Nat) : Int) := by rw [hz]; split <;> rfl
    refine mz_iadd d_Mo_bondOf_22 ?_
    refine mz_iald (j := 15 * i + if b < a then pr a b else pr b a) d_Mo_bondOf_23 (by omega) (by assumption) (by omega) (by omega) ?_
    refine mz_iret d_Mo_bondOf_24 rfl (rfl) ?_
    exact ⟨rfl, (if_neg (show ¬ a = b by omega)).symm⟩
  · refine mz_iconst d_Mo_bondOf_5 ?_
    refine mj_goto 24 d_Mo_bondOf_6 (by decide) ?_
    refine mz_iret d_Mo_bondOf_24 rfl (rfl) ?_
    exact ⟨rfl, by unfold mo_bd; rw [if_pos (by omega)]⟩
theorem m_Mo_element {E : Nat → Int} (hw : S.2.1 = 65) (h : mo_st S rf sz wr n hy sr tr rs fo sg) (hE : S.1 42 = .inl (0, 6, .inl (mj_z E))) (hn : n ≤ 6) {k : Int} (hk : iR k) (hd : 1 ≤ d) :
    mj_Met Γ d y_Mo_element M_Mo_element [.ref 40, .int (iZ k)] S 0 0 (mj_I fun z S' => mj_fr S S' [40] ∧ ((0 ≤ k ∧ k < n ∧ z = E k.toNat ∧ mo_st S' 0 sz wr n hy sr tr rs fo sg) ∨ (¬ (0 ≤ k ∧ k < n) ∧ mo_st S' 1 sz wr n hy sr tr rs fo sg))) := by
  have h1 : S.1 40 = _ := h
  refine mj_Met.of (by decide) ⟨rfl, rfl⟩ rfl rfl rfl ?_
  refine mj_aload_n d_Mo_element_0 rfl ?_
  refine mj_aload_n d_Mo_element_1 rfl ?_
  refine mj_iload_n d_Mo_element_2 rfl ?_
  refine mz_callV1i (ci := 9) d_Mo_element_3 (m_Mo_isAtom (d := 0) hw h (by omega) hk) cw_Mo_isAtom lk_Mo_190 rfl rfl (by omega) (by assumption) (by omega) rfl (fun z_3 S_3 h_3 => ?_)
  obtain ⟨rfl, hz⟩ := h_3
  by_cases q : 0 ≤ k ∧ k < n
  · rw [if_pos q] at hz
    subst hz
    refine mz_if_eq 13 d_Mo_element_6 (by decide) (by omega) (fun c_6 => ?_) (fun c_6 => ?_)
    · omega
    · refine mz_iconst d_Mo_element_9 ?_
      refine mj_goto 14 d_Mo_element_10 (by decide) ?_
      refine mz_callV1i (ci := 9) d_Mo_element_14 (m_Mo_refused (d := 0) (x := 0) hw h (by decide)) cw_Mo_refused lk_Mo_91 rfl rfl (by omega) (by assumption) (by omega) rfl (fun z_14 S_14 h_14 => ?_)
      obtain ⟨g1, hz, g2⟩ := h_14
      rw [if_neg (by decide)] at hz
      subst hz
      have g20 : S_14.1 40 = _ := g2
      have hE := g1.at hE (by simp)
      have hw := g1.w.trans hw
      refine mz_if_eq 24 d_Mo_element_17 (by decide) (by omega) (fun c_17 => ?_) (fun c_17 => ?_)
      · refine mj_aload_n d_Mo_element_24 rfl ?_
        refine mj_get (ci := 9) (j := 6) d_Mo_element_25 rfl w_Mo_17 (by decide) (by omega) (by assumption) rfl ?_
        refine mj_iload_n d_Mo_element_28 rfl ?_
        refine mz_iald (j := k.toNat) d_Mo_element_29 (by omega) (by assumption) (by omega) (by omega) ?_
        refine mz_iret d_Mo_element_30 rfl (rfl) ?_
        exact ⟨g1, Or.inl ⟨q.1, q.2, rfl, g2⟩⟩
      · omega
  · rw [if_neg q] at hz
    subst hz
    refine mz_if_eq 13 d_Mo_element_6 (by decide) (by omega) (fun c_6 => ?_) (fun c_6 => ?_)
    · refine mz_iconst d_Mo_element_13 ?_
      refine mz_callV1i (ci := 9) d_Mo_element_14 (m_Mo_refused (d := 0) (x := 1) hw h (by decide)) cw_Mo_refused lk_Mo_91 rfl rfl (by omega) (by assumption) (by omega) rfl (fun z_14 S_14 h_14 => ?_)
      obtain ⟨g1, hz, g2⟩ := h_14
      rw [if_pos (by decide)] at hz
      subst hz
      refine mz_if_eq 24 d_Mo_element_17 (by decide) (by omega) (fun c_17 => ?_) (fun c_17 => ?_)
      · omega
      · refine mz_iconst d_Mo_element_20 ?_
        refine mj_goto 30 d_Mo_element_21 (by decide) ?_
        refine mz_iret d_Mo_element_30 rfl (rfl) ?_
        exact ⟨g1, Or.inr ⟨q, g2⟩⟩
    · omega
end MO2
