/-! the reference: bond, hydrogens; putting signs -/
def mo_lp (S : mj_S) (p : Nat × (Nat → Int)) (rf wr am hy sr tr rs fo sg : Int) : Prop := mo_st S rf p.1 wr am hy sr tr rs fo sg ∧ mj_lc S p.2
section MO3
variable {Γ : mj_G} {d L n : Nat} {S : mj_S} {C : Nat → Int} {rf sz wr am hy sr tr rs fo sg : Int} {p : Nat × (Nat → Int)}
theorem m_Mo_bond {T : Nat → Int} {z0 : Nat} (hw : S.2.1 = 65) (h : mo_st S rf sz wr n hy z0 tr rs fo sg) (hT : S.1 43 = .inl (0, 7500, .inl (mj_z T))) (hn : n ≤ 6) (hz0 : z0 ≤ 500) {i a b : Int} (hi : iR i) (ha : iR a) (hb : iR b) (hd : 2 ≤ d) :
    mj_Met Γ d y_Mo_bond M_Mo_bond [.ref 40, .int (iZ i), .int (iZ a), .int (iZ b)] S 0 0 (mj_I fun z S' => mj_fr S S' [40] ∧ (((0 ≤ i ∧ i < z0) ∧ (0 ≤ a ∧ a < n) ∧ (0 ≤ b ∧ b < n) ∧ z = mo_bd T i.toNat a.toNat b.toNat ∧ mo_st S' 0 sz wr n hy z0 tr rs fo sg) ∨ (¬ ((0 ≤ i ∧ i < z0) ∧ (0 ≤ a ∧ a < n) ∧ (0 ≤ b ∧ b < n)) ∧ mo_st S' 1 sz wr n hy z0 tr rs fo sg))) := by
  have h1 : S.1 40 = _ := h
  have no : ¬ ((0 ≤ i ∧ i < z0) ∧ (0 ≤ a ∧ a < n) ∧ (0 ≤ b ∧ b < n)) → mj_Ok Γ d M_Mo_bond 0 0 29 [.ref 40, .int (iZ i), .int (iZ a), .int (iZ b)] [.ref 40] S (mj_I fun z S' => mj_fr S S' [40] ∧ (((0 ≤ i ∧ i < z0) ∧ (0 ≤ a ∧ a < n) ∧ (0 ≤ b ∧ b < n) ∧ z = mo_bd T i.toNat a.toNat b.toNat ∧ mo_st S' 0 sz wr n hy z0 tr rs fo sg) ∨ (¬ ((0 ≤ i ∧ i < z0) ∧ (0 ≤ a ∧ a < n) ∧ (0 ≤ b ∧ b < n)) ∧ mo_st S' 1 sz wr n hy z0 tr rs fo sg))) := by
    intro q
    refine mz_iconst d_Mo_bond_29 ?_
    refine mz_callV1i (ci := 9) d_Mo_bond_30 (m_Mo_refused (d := 0) (x := 1) hw h (by decide)) cw_Mo_refused lk_Mo_91 rfl rfl (by omega) (by assumption) (by omega) rfl (fun z_30 S_30 h_30 => ?_)
    obtain ⟨g1, hz, g2⟩ := h_30
    rw [if_pos (by decide)] at hz
    subst hz
    refine mz_if_eq 40 d_Mo_bond_33 (by decide) (by omega) (fun c_33 => ?_) (fun c_33 => ?_)
    · omega
    · refine mz_iconst d_Mo_bond_36 ?_
      refine mj_goto 47 d_Mo_bond_37 (by decide) ?_
      refine mz_iret d_Mo_bond_47 rfl (rfl) ?_
      exact ⟨g1, Or.inr ⟨q, g2⟩⟩
  refine mj_Met.of (by decide) ⟨rfl, rfl⟩ rfl rfl rfl ?_
  refine mj_aload_n d_Mo_bond_0 rfl ?_
  refine mj_aload_n d_Mo_bond_1 rfl ?_
  refine mj_iload_n d_Mo_bond_2 rfl ?_
  refine mz_callV1i (ci := 9) d_Mo_bond_3 (m_Mo_isStructure (d := 0) hw h (by omega) hi) cw_Mo_isStructure lk_Mo_193 rfl rfl (by omega) (by assumption) (by omega) rfl (fun z_3 S_3 h_3 => ?_)
  obtain ⟨rfl, hz⟩ := h_3
  by_cases q1 : 0 ≤ i ∧ i < z0
  · rw [if_pos q1] at hz
    subst hz
    refine mz_if_eq 29 d_Mo_bond_6 (by decide) (by omega) (fun c_6 => ?_) (fun c_6 => ?_)
    · omega
    · refine mj_aload_n d_Mo_bond_9 rfl ?_
      refine mj_iload_n d_Mo_bond_10 rfl ?_
      refine mz_callV1i (ci := 9) d_Mo_bond_11 (m_Mo_isAtom (d := 0) hw h (by omega) ha) cw_Mo_isAtom lk_Mo_190 rfl rfl (by omega) (by assumption) (by omega) rfl (fun z_11 S_11 h_11 => ?_)
      obtain ⟨rfl, hz⟩ := h_11
      by_cases q2 : 0 ≤ a ∧ a < n
      · rw [if_pos q2] at hz
        subst hz
        refine mz_if_eq 29 d_Mo_bond_14 (by decide) (by omega) (fun c_14 => ?_) (fun c_14 => ?_)
        · omega
        · refine mj_aload_n d_Mo_bond_17 rfl ?_
          refine mj_iload_n d_Mo_bond_18 rfl ?_
          refine mz_callV1i (ci := 9) d_Mo_bond_19 (m_Mo_isAtom (d := 0) hw h (by omega) hb) cw_Mo_isAtom lk_Mo_190 rfl rfl (by omega) (by assumption) (by omega) rfl (fun z_19 S_19 h_19 => ?_)
          obtain ⟨rfl, hz⟩ := h_19
          by_cases q3 : 0 ≤ b ∧ b < n
          · rw [if_pos q3] at hz
            subst hz
            refine mz_if_eq 29 d_Mo_bond_22 (by decide) (by omega) (fun c_22 => ?_) (fun c_22 => ?_)
            · omega
            · refine mz_iconst d_Mo_bond_25 ?_
              refine mj_goto 30 d_Mo_bond_26 (by decide) ?_
              refine mz_callV1i (ci := 9) d_Mo_bond_30 (m_Mo_refused (d := 0) (x := 0) hw h (by decide)) cw_Mo_refused lk_Mo_91 rfl rfl (by omega) (by assumption) (by omega) rfl (fun z_30 S_30 h_30 => ?_)
              obtain ⟨g1, hz, g2⟩ := h_30
              rw [if_neg (by decide)] at hz
              subst hz
              have hT := g1.at hT (by simp)
              have hw := g1.w.trans hw
              have g20 : S_30.1 40 = _ := g2
              refine mz_if_eq 40 d_Mo_bond_33 (by decide) (by omega) (fun c_33 => ?_) (fun c_33 => ?_)
              · have e1 : i = ((i.toNat : Nat) : Int) := by omega
                have e2 : a = ((a.toNat : Nat) : Int) := by omega
                have e3 : b = ((b.toNat : Nat) : Int) := by omega
                refine mj_aload_n d_Mo_bond_40 rfl ?_
                refine mj_iload_n d_Mo_bond_41 rfl ?_
                refine mj_iload_n d_Mo_bond_42 rfl ?_
                refine mj_iload_n d_Mo_bond_43 rfl ?_
                rw [show (Value.int (iZ i)) = .int (iZ (i.toNat : Nat)) by rw [← e1], show (Value.int (iZ a)) = .int (iZ (a.toNat : Nat)) by rw [← e2], show (Value.int (iZ b)) = .int (iZ (b.toNat : Nat)) by rw [← e3]]
                refine mz_callV3i (ci := 9) d_Mo_bond_44 (m_Mo_bondOf (d := 1) hw g2 hT (by omega) (by omega) (by omega) (by omega)) cw_Mo_bondOf lk_Mo_196 rfl rfl (by omega) (by assumption) (by omega) rfl (fun z_44 S_44 h_44 => ?_)
                obtain ⟨rfl, hz⟩ := h_44
                refine mz_iret d_Mo_bond_47 rfl (rfl) ?_
                exact ⟨g1, Or.inl ⟨q1, q2, q3, hz, g2⟩⟩
              · omega
          · rw [if_neg q3] at hz
            subst hz
            refine mz_if_eq 29 d_Mo_bond_22 (by decide) (by omega) (fun c_22 => ?_) (fun c_22 => ?_)
            · exact no (fun q => q3 q.2.2)
            · omega
      · rw [if_neg q2] at hz
        subst hz
        refine mz_if_eq 29 d_Mo_bond_14 (by decide) (by omega) (fun c_14 => ?_) (fun c_14 => ?_)
        · exact no (fun q => q2 q.2.1)
        · omega
  · rw [if_neg q1] at hz
    subst hz
    refine mz_if_eq 29 d_Mo_bond_6 (by decide) (by omega) (fun c_6 => ?_) (fun c_6 => ?_)
    · exact no (fun q => q1 q.1)
    · omega
theorem m_Mo_hydrogens {T E : Nat → Int} {KM : Nat → Nat} {z0 : Nat} (hw : S.2.1 = 65) (h : mo_st S rf sz wr n hy z0 tr rs fo sg) (hT : S.1 43 = .inl (0, 7500, .inl (mj_z T))) (hE : S.1 42 = .inl (0, 6, .inl (mj_z E))) (hK : ∀ j, j < n → E j = KM j ∧ KM j < 9) (hn : n ≤ 6) (hz0 : z0 ≤ 500) {i a : Int} (hi : iR i) (ha : iR a) (hd : 2 ≤ d) :
    mj_Met Γ d y_Mo_hydrogens M_Mo_hydrogens [.ref 40, .int (iZ i), .int (iZ a)] S 0 0 (mj_I fun z S' => mj_fr S S' [40] ∧ (((0 ≤ i ∧ i < z0) ∧ (0 ≤ a ∧ a < n) ∧ z = mj_VAL (KM a.toNat) - mj_sum (fun b => mo_bd T i.toNat a.toNat b) n ∧ mo_st S' 0 sz wr n hy z0 tr rs fo sg) ∨ (¬ ((0 ≤ i ∧ i < z0) ∧ (0 ≤ a ∧ a < n)) ∧ mo_st S' 1 sz wr n hy z0 tr rs fo sg))) := by
  have h1 : S.1 40 = _ := h
  have no : ¬ ((0 ≤ i ∧ i < z0) ∧ (0 ≤ a ∧ a < n)) → ∀ x y : Value, mj_Ok Γ d M_Mo_hydrogens 0 0 21 [.ref 40, .int (iZ i), .int (iZ a), x, y] [.ref 40] S (mj_I fun z S' => mj_fr S S' [40] ∧ (((0 ≤ i ∧ i < z0) ∧ (0 ≤ a ∧ a < n) ∧ z = mj_VAL (KM a.toNat) - mj_sum (fun b => mo_bd T i.toNat a.toNat b) n ∧ mo_st S' 0 sz wr n hy z0 tr rs fo sg) ∨ (¬ ((0 ≤ i ∧ i < z0) ∧ (0 ≤ a ∧ a < n)) ∧ mo_st S' 1 sz wr n hy z0 tr rs fo sg))) := by
    intro q x y
    refine mz_iconst d_Mo_hydrogens_21 ?_
    refine mz_callV1i (ci := 9) d_Mo_hydrogens_22 (m_Mo_refused (d := 0) (x := 1) hw h (by decide)) cw_Mo_refused lk_Mo_91 rfl rfl (by omega) (by assumption) (by omega) rfl (fun z_22 S_22 h_22 => ?_)
    obtain ⟨g1, hz, g2⟩ := h_22
    rw [if_pos (by decide)] at hz
    subst hz
    refine mz_if_eq 30 d_Mo_hydrogens_25 (by decide) (by omega) (fun c_25 => ?_) (fun c_25 => ?_)
    · omega
    · refine mz_iconst d_Mo_hydrogens_28 ?_
      refine mz_iret d_Mo_hydrogens_29 rfl (rfl) ?_
      exact ⟨g1, Or.inr ⟨q, g2⟩⟩
  refine mj_Met.of (by decide) ⟨rfl, rfl⟩ rfl rfl rfl ?_
  refine mj_aload_n d_Mo_hydrogens_0 rfl ?_
  refine mj_aload_n d_Mo_hydrogens_1 rfl ?_
  refine mj_iload_n d_Mo_hydrogens_2 rfl ?_
  refine mz_callV1i (ci := 9) d_Mo_hydrogens_3 (m_Mo_isStructure (d := 0) hw h (by omega) hi) cw_Mo_isStructure lk_Mo_193 rfl rfl (by omega) (by assumption) (by omega) rfl (fun z_3 S_3 h_3 => ?_)
  obtain ⟨rfl, hz⟩ := h_3
  by_cases q1 : 0 ≤ i ∧ i < z0
  · rw [if_pos q1] at hz
    subst hz
    refine mz_if_eq 21 d_Mo_hydrogens_6 (by decide) (by omega) (fun c_6 => ?_) (fun c_6 => ?_)
    · omega
    · refine mj_aload_n d_Mo_hydrogens_9 rfl ?_
      refine mj_iload_n d_Mo_hydrogens_10 rfl ?_
      refine mz_callV1i (ci := 9) d_Mo_hydrogens_11 (m_Mo_isAtom (d := 0) hw h (by omega) ha) cw_Mo_isAtom lk_Mo_190 rfl rfl (by omega) (by assumption) (by omega) rfl (fun z_11 S_11 h_11 => ?_)
      obtain ⟨rfl, hz⟩ := h_11
      by_cases q2 : 0 ≤ a ∧ a < n
      · rw [if_pos q2] at hz
        subst hz
        refine mz_if_eq 21 d_Mo_hydrogens_14 (by decide) (by omega) (fun c_14 => ?_) (fun c_14 => ?_)
        · omega
        · refine mz_iconst d_Mo_hydrogens_17 ?_
          refine mj_goto 22 d_Mo_hydrogens_18 (by decide) ?_
          refine mz_callV1i (ci := 9) d_Mo_hydrogens_22 (m_Mo_refused (d := 0) (x := 0) hw h (by decide)) cw_Mo_refused lk_Mo_91 rfl rfl (by omega) (by assumption) (by omega) rfl (fun z_22 S_22 h_22 => ?_)
          obtain ⟨g1, hz, g2⟩ := h_22
          rw [if_neg (by decide)] at hz
          subst hz
          have hT := g1.at hT (by simp)
          have hE := g1.at hE (by simp)
          have hw := g1.w.trans hw
          have g20 : S_22.1 40 = _ := g2
          obtain ⟨iN, rfl⟩ : ∃ iN : Nat, i = iN := ⟨i.toNat, by omega⟩
          obtain ⟨aN, rfl⟩ : ∃ aN : Nat, a = aN := ⟨a.toNat, by omega⟩
          rw [Int.toNat_natCast, Int.toNat_natCast]
          have hKa := hK aN (by omega)
          refine mz_if_eq 30 d_Mo_hydrogens_25 (by decide) (by omega) (fun c_25 => ?_) (fun c_25 => ?_)
          · refine mj_aload_n d_Mo_hydrogens_30 rfl ?_
            refine mj_get (ci := 9) (j := 6) d_Mo_hydrogens_31 rfl w_Mo_17 (by decide) (by omega) (by assumption) rfl ?_
            refine mj_iload_n d_Mo_hydrogens_34 rfl ?_
            refine mz_iald (j := aN) d_Mo_hydrogens_35 (by omega) (by assumption) (by omega) (by omega) ?_
            rw [hKa.1]
            refine mz_callS1i d_Mo_hydrogens_36 (m_Mo_valence (d := 0) (by omega)) cw_Mo_valence lk_Mo_114 (by omega) rfl (fun z_36 S_36 h_36 => ?_)
            obtain ⟨rfl, rfl⟩ := h_36
            refine mz_ist3 d_Mo_hydrogens_39 (rfl) ?_
            refine mz_iconst d_Mo_hydrogens_40 ?_
            refine mz_ist4 d_Mo_hydrogens_41 (rfl) ?_
            obtain ⟨Q, hQ⟩ : ∃ Q : Int → mj_S → Prop, Q = (fun z S' => mj_fr S_11 S' [40] ∧ (((0 ≤ (iN : Int) ∧ (iN : Int) < z0) ∧ (0 ≤ (aN : Int) ∧ (aN : Int) < n) ∧ z = mj_VAL (KM aN) - mj_sum (fun b => mo_bd T iN aN b) n ∧ mo_st S' 0 sz wr n hy z0 tr rs fo sg) ∨ (¬ ((0 ≤ (iN : Int) ∧ (iN : Int) < z0) ∧ (0 ≤ (aN : Int) ∧ (aN : Int) < n)) ∧ mo_st S' 1 sz wr n hy z0 tr rs fo sg))) := ⟨_, rfl⟩
            rw [← hQ]
            have hq : Q (mj_VAL (KM aN) - mj_sum (fun b => mo_bd T iN aN b) n) S_36 := by rw [hQ]; exact ⟨g1, Or.inl ⟨q1, q2, rfl, g2⟩⟩
            have loop : ∀ (q j : Nat), j + q = n → mj_Ok Γ d M_Mo_hydrogens 0 0 43 [.ref 40, .int (iZ iN), .int (iZ aN), .int (iZ (mj_VAL (KM aN) - mj_sum (fun b => mo_bd T iN aN b) j)), .int (iZ j)] [] S_36 (mj_I Q) := by
              intro q
              induction q with
              | zero =>
                intro j hj
                have : j = n := by omega
                subst this
                refine mj_iload d_Mo_hydrogens_43 rfl ?_
                refine mj_aload_n d_Mo_hydrogens_45 rfl ?_
                refine mj_get (ci := 9) (j := 4) d_Mo_hydrogens_46 rfl w_Mo_129 (by decide) (by omega) (by assumption) rfl ?_
                refine mz_icmp_ge 69 d_Mo_hydrogens_49 (by decide) (by omega) (by omega) (fun c_49 => ?_) (fun c_49 => ?_)
                · refine mj_iload_n d_Mo_hydrogens_69 rfl ?_
                  refine mz_iret d_Mo_hydrogens_70 rfl (rfl) ?_
                  exact hq
                · omega
              | succ q ih =>
                intro j hj
                refine mj_iload d_Mo_hydrogens_43 rfl ?_
                refine mj_aload_n d_Mo_hydrogens_45 rfl ?_
                refine mj_get (ci := 9) (j := 4) d_Mo_hydrogens_46 rfl w_Mo_129 (by decide) (by omega) (by assumption) rfl ?_
                refine mz_icmp_ge 69 d_Mo_hydrogens_49 (by decide) (by omega) (by omega) (fun c_49 => ?_) (fun c_49 => ?_)
                · omega
                · refine mj_iload_n d_Mo_hydrogens_52 rfl ?_
                  refine mj_aload_n d_Mo_hydrogens_53 rfl ?_
                  refine mj_iload_n d_Mo_hydrogens_54 rfl ?_
                  refine mj_iload_n d_Mo_hydrogens_55 rfl ?_
                  refine mj_iload d_Mo_hydrogens_56 rfl ?_
                  refine mz_callV3i (ci := 9) d_Mo_hydrogens_58 (m_Mo_bondOf (d := 1) (i := iN) (a := aN) (b := j) hw g2 hT (by omega) (by omega) (by omega) (by omega)) cw_Mo_bondOf lk_Mo_196 rfl rfl (by omega) (by assumption) (by omega) rfl (fun z_58 S_58 h_58 => ?_)
                  have h_58 : S_58 = S_36 ∧ z_58 = _ := h_58
                  obtain ⟨e58, rfl⟩ := h_58
                  rw [e58]
                  refine mz_isub d_Mo_hydrogens_61 ?_
                  refine mz_ist3 d_Mo_hydrogens_62 (rfl) ?_
                  refine mz_inc4 d_Mo_hydrogens_63 (rfl) ?_
                  refine mj_goto 43 d_Mo_hydrogens_66 (by decide) ?_
                  have w := ih (j + 1) (by omega)
                  rw [show ((j + 1 : Nat) : Int) = (j : Int) + 1 by omega, show mj_VAL (KM aN) - mj_sum (fun b => mo_bd T iN aN b) (j + 1) = mj_VAL (KM aN) - mj_sum (fun b => mo_bd T iN aN b) j - mo_bd T iN aN j by rw [mj_sum]; omega] at w
                  exact w
            have w0 := loop n 0 (by omega)
            rw [show mj_VAL (KM aN) - mj_sum (fun b => mo_bd T iN aN b) 0 = mj_VAL (KM aN) by rw [mj_sum]; omega] at w0
            exact w0
          · omega
      · rw [if_neg q2] at hz
        subst hz
        refine mz_if_eq 21 d_Mo_hydrogens_14 (by decide) (by omega) (fun c_14 => ?_) (fun c_14 => ?_)
        · exact no (fun q => q2 q.2) _ _
        · omega
  · rw [if_neg q1] at hz
    subst hz
    refine mz_if_eq 21 d_Mo_hydrogens_6 (by decide) (by omega) (fun c_6 => ?_) (fun c_6 => ?_)
    · exact no (fun q => q1 q.1) _ _
    · omega
theorem m_Mo_put (hw : S.2.1 = 65) (h : mo_lp S p rf wr am hy sr tr rs fo sg) (hL : p.1 < 60) {c : Int} (hc : 0 ≤ c ∧ c < 65536) : mj_Met Γ d y_Mo_put M_Mo_put [.ref 40, .int (iZ c)] S 0 0 (mj_V fun S' => mj_fr S S' [40, 41] ∧ mo_lp S' (lnA p c) rf wr am hy sr tr rs fo sg) := by
  obtain ⟨L, C⟩ := p
  obtain ⟨h, hl⟩ := h
  have hL : L < 60 := hL
  have h1 : S.1 40 = _ := h
  have h2 := hl.1
  refine mj_Met.of (by decide) ⟨rfl, rfl⟩ rfl rfl rfl ?_
  have hnr := mj_narC hc.1 hc.2
  refine mj_aload_n d_Mo_put_0 rfl ?_
  refine mj_get (ci := 9) (j := 2) d_Mo_put_1 rfl w_Mo_7 (by decide) (by omega) (by assumption) rfl ?_
  refine mj_aload_n d_Mo_put_4 rfl ?_
  refine mj_get (ci := 9) (j := 1) d_Mo_put_5 rfl w_Mo_88 (by decide) (by omega) (by assumption) rfl ?_
  refine mj_iload_n d_Mo_put_8 rfl ?_
  refine mz_cast (j := L) d_Mo_put_9 (by omega) (by assumption) (rfl) (by omega) (hnr) (fun S_9 w_9 e_9 f_9 => ?_)
  have h1 := f_9.at h1 (by simp)
  refine mj_aload_n d_Mo_put_10 rfl ?_
  refine mj_dup d_Mo_put_11 rfl ?_
  refine mj_get (ci := 9) (j := 1) d_Mo_put_12 rfl w_Mo_88 (by decide) (by omega) (by assumption) rfl ?_
  refine mz_iconst d_Mo_put_15 ?_
  refine mz_iadd d_Mo_put_16 ?_
  refine mz_put (ci := 9) (j := 1) d_Mo_put_17 rfl w_Mo_88 (by decide) rfl (by omega) (by assumption) (Nat.le_of_ble_eq_true rfl) (mj_fit_int _) rfl (fun S_17 w_17 e_17 f_17 => ?_)
  refine mz_vret d_Mo_put_20 rfl ?_
  unfold lnA
  rw [if_pos hL]
  refine ⟨f_9.tr f_17 (by simp) (by simp), e_17, f_17.at e_9 (by simp), fun j => ?_⟩
  show 0 ≤ va_up C L c j ∧ va_up C L c j < 65536
  by_cases e : j = L
  · subst e; rw [va_up_self]; exact hc
  · rw [va_up_ne _ _ e]; exact hl.2 j
theorem m_Mo_putBond (hw : S.2.1 = 65) (h : mo_lp S p rf wr am hy sr tr rs fo sg) {b : Int} (hb : 0 ≤ b ∧ b ≤ 3) (hL : p.1 + (if 2 ≤ b then 1 else 0) ≤ 60) (hd : 1 ≤ d) : mj_Met Γ d y_Mo_putBond M_Mo_putBond [.ref 40, .int (iZ b)] S 0 0 (mj_V fun S' => mj_fr S S' [40, 41] ∧ mo_lp S' (lnB p b) rf wr am hy sr tr rs fo sg) := by
  refine mj_Met.of (by decide) ⟨rfl, rfl⟩ rfl rfl rfl ?_
  have h1 : S.1 40 = _ := h.1
  unfold lnB
  refine mj_iload_n d_Mo_putBond_0 rfl ?_
  refine mz_iconst d_Mo_putBond_1 ?_
  refine mz_icmp_le 21 d_Mo_putBond_2 (by decide) (by omega) (by omega) (fun c_2 => ?_) (fun c_2 => ?_)
  · refine mz_vret d_Mo_putBond_21 rfl ?_
    rw [if_neg (by omega), if_neg (by omega)]
    exact ⟨mj_fr.rf _ _, h⟩
  · rw [if_pos (by omega)] at hL
    refine mj_aload_n d_Mo_putBond_5 rfl ?_
    refine mj_iload_n d_Mo_putBond_6 rfl ?_
    refine mz_iconst d_Mo_putBond_7 ?_
    refine mz_icmp_ne 16 d_Mo_putBond_8 (by decide) (by omega) (by omega) (fun c_8 => ?_) (fun c_8 => ?_)
    · refine mz_bipush d_Mo_putBond_16 (by decide) ?_
      refine mz_callV1v (ci := 9) d_Mo_putBond_18 (m_Mo_put (d := 0) hw h (by omega) (by decide)) cw_Mo_put lk_Mo_200 rfl rfl (by omega) (by assumption) (by omega) rfl (fun S_18 h_18 => ?_)
      refine mz_vret d_Mo_putBond_21 rfl ?_
      rw [if_neg (by omega), if_pos (by omega)]
      exact h_18
    · refine mz_bipush d_Mo_putBond_11 (by decide) ?_
      refine mj_goto 18 d_Mo_putBond_13 (by decide) ?_
      refine mz_callV1v (ci := 9) d_Mo_putBond_18 (m_Mo_put (d := 0) hw h (by omega) (by decide)) cw_Mo_put lk_Mo_200 rfl rfl (by omega) (by assumption) (by omega) rfl (fun S_18 h_18 => ?_)
      refine mz_vret d_Mo_putBond_21 rfl ?_
      rw [if_pos (by omega)]
      exact h_18
theorem m_Mo_putSign (hw : S.2.1 = 65) (h : mo_lp S p rf wr am hy sr tr rs fo sg) {e : Nat} (he : e < 9) (hL : p.1 + 2 ≤ 60) (hd : 1 ≤ d) : mj_Met Γ d y_Mo_putSign M_Mo_putSign [.ref 40, .int (iZ e)] S 0 0 (mj_V fun S' => mj_fr S S' [40, 41] ∧ mo_lp S' (lnE p e) rf wr am hy sr tr rs fo sg) := by
  have h1 : S.1 40 = _ := h.1
  have hf : ∀ k, k < 10 → 0 ≤ mj_FST k ∧ mj_FST k < 65536 := by decide
  have tail : mj_Ok Γ d M_Mo_putSign 0 0 79 [.ref 40, .int (iZ e)] [.int (iZ (mj_FST e)), .ref 40] S (mj_V fun S' => mj_fr S S' [40, 41] ∧ mo_lp S' (lnE p e) rf wr am hy sr tr rs fo sg) := by
    refine mz_callV1v (ci := 9) d_Mo_putSign_79 (m_Mo_put (d := 0) hw h (by omega) (hf e (by omega))) cw_Mo_put lk_Mo_200 rfl rfl (by omega) (by assumption) (by omega) rfl (fun S_79 h_79 => ?_)
    obtain ⟨g1, g2⟩ := h_79
    have g20 : S_79.1 40 = _ := g2.1
    have hw := g1.w.trans hw
    have hp : (lnA p (mj_FST e)).1 = p.1 + 1 := by unfold lnA; rw [if_pos (by omega)]
    unfold lnE
    refine mj_iload_n d_Mo_putSign_82 rfl ?_
    refine mz_bipush d_Mo_putSign_83 (by decide) ?_
    refine mz_icmp_eq 94 d_Mo_putSign_85 (by decide) (by omega) (by omega) (fun c_85 => ?_) (fun c_85 => ?_)
    · have : e = 6 := by omega
      subst this
      refine mj_aload_n d_Mo_putSign_94 rfl ?_
      refine mj_iload_n d_Mo_putSign_95 rfl ?_
      refine mz_bipush d_Mo_putSign_96 (by decide) ?_
      refine mz_icmp_ne 106 d_Mo_putSign_98 (by decide) (by omega) (by omega) (fun c_98 => ?_) (fun c_98 => ?_)
      · omega
      · refine mz_bipush d_Mo_putSign_101 (by decide) ?_
        refine mj_goto 108 d_Mo_putSign_103 (by decide) ?_
        refine mz_callV1v (ci := 9) d_Mo_putSign_108 (m_Mo_put (d := 0) hw g2 (by omega) (by decide)) cw_Mo_put lk_Mo_200 rfl rfl (by omega) (by assumption) (by omega) rfl (fun S_108 h_108 => ?_)
        refine mz_vret d_Mo_putSign_111 rfl ?_
        exact ⟨g1.tr h_108.1 (by simp) (by simp), h_108.2⟩
    · refine mj_iload_n d_Mo_putSign_88 rfl ?_
      refine mz_bipush d_Mo_putSign_89 (by decide) ?_
      refine mz_icmp_ne 111 d_Mo_putSign_91 (by decide) (by omega) (by omega) (fun c_91 => ?_) (fun c_91 => ?_)
      · refine mz_vret d_Mo_putSign_111 rfl ?_
        rw [if_pos (show mj_SND e = 0 from (show ∀ k, k < 9 → k ≠ 6 → k ≠ 7 → mj_SND k = 0 by decide) e he (by omega) (by omega))]
        exact ⟨g1, g2⟩
      · have : e = 7 := by omega
        subst this
        refine mj_aload_n d_Mo_putSign_94 rfl ?_
        refine mj_iload_n d_Mo_putSign_95 rfl ?_
        refine mz_bipush d_Mo_putSign_96 (by decide) ?_
        refine mz_icmp_ne 106 d_Mo_putSign_98 (by decide) (by omega) (by omega) (fun c_98 => ?_) (fun c_98 => ?_)
        · refine mz_bipush d_Mo_putSign_106 (by decide) ?_
          refine mz_callV1v (ci := 9) d_Mo_putSign_108 (m_Mo_put (d := 0) hw g2 (by omega) (by decide)) cw_Mo_put lk_Mo_200 rfl rfl (by omega) (by assumption) (by omega) rfl (fun S_108 h_108 => ?_)
          refine mz_vret d_Mo_putSign_111 rfl ?_
          exact ⟨g1.tr h_108.1 (by simp) (by simp), h_108.2⟩
        · omega
  refine mj_Met.of (by decide) ⟨rfl, rfl⟩ rfl rfl rfl ?_
  refine mj_aload_n d_Mo_putSign_0 rfl ?_
  refine mj_iload_n d_Mo_putSign_1 rfl ?_
  refine mz_if_eq 11 d_Mo_putSign_2 (by decide) (by omega) (fun c_2 => ?_) (fun c_2 => ?_)
  · have : e = 0 := by omega
    subst this
    refine mz_bipush d_Mo_putSign_11 (by decide) ?_
    refine mj_goto 79 d_Mo_putSign_13 (by decide) ?_
    exact tail
  · refine mj_iload_n d_Mo_putSign_5 rfl ?_
    refine mz_bipush d_Mo_putSign_6 (by decide) ?_
    refine mz_icmp_ne 16 d_Mo_putSign_8 (by decide) (by omega) (by omega) (fun c_8 => ?_) (fun c_8 => ?_)
    · refine mj_iload_n d_Mo_putSign_16 rfl ?_
      refine mz_iconst d_Mo_putSign_17 ?_
      refine mz_icmp_ne 26 d_Mo_putSign_18 (by decide) (by omega) (by omega) (fun c_18 => ?_) (fun c_18 => ?_)
      · refine mj_iload_n d_Mo_putSign_26 rfl ?_
        refine mz_iconst d_Mo_putSign_27 ?_
        refine mz_icmp_ne 36 d_Mo_putSign_28 (by decide) (by omega) (by omega) (fun c_28 => ?_) (fun c_28 => ?_)
        · refine mj_iload_n d_Mo_putSign_36 rfl ?_
          refine mz_iconst d_Mo_putSign_37 ?_
          refine mz_icmp_ne 46 d_Mo_putSign_38 (by decide) (by omega) (by omega) (fun c_38 => ?_) (fun c_38 => ?_)
          · refine mj_iload_n d_Mo_putSign_46 rfl ?_
            refine mz_iconst d_Mo_putSign_47 ?_
            refine mz_icmp_ne 56 d_Mo_putSign_48 (by decide) (by omega) (by omega) (fun c_48 => ?_) (fun c_48 => ?_)
            · refine mj_iload_n d_Mo_putSign_56 rfl ?_
              refine mz_iconst d_Mo_putSign_57 ?_
              refine mz_icmp_ne 66 d_Mo_putSign_58 (by decide) (by omega) (by omega) (fun c_58 => ?_) (fun c_58 => ?_)
              · refine mj_iload_n d_Mo_putSign_66 rfl ?_
                refine mz_bipush d_Mo_putSign_67 (by decide) ?_
                refine mz_icmp_ne 77 d_Mo_putSign_69 (by decide) (by omega) (by omega) (fun c_69 => ?_) (fun c_69 => ?_)
                · have : e = 8 := by omega
                  subst this
                  refine mz_bipush d_Mo_putSign_77 (by decide) ?_
                  exact tail
                · have : e = 7 := by omega
                  subst this
                  refine mz_bipush d_Mo_putSign_72 (by decide) ?_
                  refine mj_goto 79 d_Mo_putSign_74 (by decide) ?_
                  exact tail
              · have : e = 5 := by omega
                subst this
                refine mz_bipush d_Mo_putSign_61 (by decide) ?_
                refine mj_goto 79 d_Mo_putSign_63 (by decide) ?_
                exact tail
            · have : e = 4 := by omega
              subst this
              refine mz_bipush d_Mo_putSign_51 (by decide) ?_
              refine mj_goto 79 d_Mo_putSign_53 (by decide) ?_
              exact tail
          · have : e = 3 := by omega
            subst this
            refine mz_bipush d_Mo_putSign_41 (by decide) ?_
            refine mj_goto 79 d_Mo_putSign_43 (by decide) ?_
            exact tail
        · have : e = 2 := by omega
          subst this
          refine mz_bipush d_Mo_putSign_31 (by decide) ?_
          refine mj_goto 79 d_Mo_putSign_33 (by decide) ?_
          exact tail
      · have : e = 1 := by omega
        subst this
        refine mz_bipush d_Mo_putSign_21 (by decide) ?_
        refine mj_goto 79 d_Mo_putSign_23 (by decide) ?_
        exact tail
    · have : e = 6 := by omega
      subst this
      refine mz_bipush d_Mo_putSign_11 (by decide) ?_
      refine mj_goto 79 d_Mo_putSign_13 (by decide) ?_
      exact tail
theorem m_Mo_further {BF : Nat → Int} {a be : Int} (hw : S.2.1 = 65) (h : mo_st S rf sz wr n hy sr tr rs fo sg) (hB : S.1 58 = .inl (0, 6, .inl (mj_z BF))) (hn : n ≤ 6) (hBr : ∀ j, j < 6 → iR (BF j)) (ha : iR a) (hbe : -1 ≤ be ∧ be < 6) :
    mj_Met Γ d y_Mo_further M_Mo_further [.ref 40, .int (iZ a), .int (iZ be)] S 0 0 (mj_I fun z S' => S' = S ∧ ((z = -1 ∧ ∀ j : Nat, be < j → j < n → BF j ≠ a) ∨ (∃ b : Nat, z = b ∧ be < b ∧ b < n ∧ BF b = a ∧ ∀ j : Nat, be < j → j < b → BF j ≠ a))) := by
  have h1 : S.1 40 = _ := h
  refine mj_Met.of (by decide) ⟨rfl, rfl⟩ rfl rfl rfl ?_
  refine mj_iload_n d_Mo_further_0 rfl ?_
  refine mz_iconst d_Mo_further_1 ?_
  refine mz_iadd d_Mo_further_2 ?_
  refine mz_ist3 d_Mo_further_3 (rfl) ?_
  have loop : ∀ (q j : Nat), j + q = 6 → be < j → (∀ i : Nat, be < i → i < j → BF i ≠ a) → mj_Ok Γ d M_Mo_further 0 0 4 [.ref 40, .int (iZ a), .int (iZ be), .int (iZ j)] [] S (mj_I fun z S' => S' = S ∧ ((z = -1 ∧ ∀ j : Nat, be < j → j < n → BF j ≠ a) ∨ (∃ b : Nat, z = b ∧ be < b ∧ b < n ∧ BF b = a ∧ ∀ j : Nat, be < j → j < b → BF j ≠ a))) := by
    intro q
    induction q with
    | zero =>
      intro j hj hb hi
      refine mj_iload_n d_Mo_further_4 rfl ?_
      refine mj_aload_n d_Mo_further_5 rfl ?_
      refine mj_get (ci := 9) (j := 4) d_Mo_further_6 rfl w_Mo_129 (by decide) (by omega) (by assumption) rfl ?_
      refine mz_icmp_ge 30 d_Mo_further_9 (by decide) (by omega) (by omega) (fun c_9 => ?_) (fun c_9 => ?_)
      · refine mz_iconst d_Mo_further_30 ?_
        refine mz_iret d_Mo_further_31 rfl (rfl) ?_
        exact ⟨rfl, Or.inl ⟨rfl, fun i i1 i2 => hi i i1 (by omega)⟩⟩
      · omega
    | succ q ih =>
      intro j hj hb hi
      refine mj_iload_n d_Mo_further_4 rfl ?_
      refine mj_aload_n d_Mo_further_5 rfl ?_
      refine mj_get (ci := 9) (j := 4) d_Mo_further_6 rfl w_Mo_129 (by decide) (by omega) (by assumption) rfl ?_
      refine mz_icmp_ge 30 d_Mo_further_9 (by decide) (by omega) (by omega) (fun c_9 => ?_) (fun c_9 => ?_)
      · refine mz_iconst d_Mo_further_30 ?_
        refine mz_iret d_Mo_further_31 rfl (rfl) ?_
        exact ⟨rfl, Or.inl ⟨rfl, fun i i1 i2 => hi i i1 (by omega)⟩⟩
      · have hr := hBr j (by omega)
        refine mj_aload_n d_Mo_further_12 rfl ?_
        refine mj_get (ci := 9) (j := 27) d_Mo_further_13 rfl w_Mo_67 (by decide) (by omega) (by assumption) rfl ?_
        refine mj_iload_n d_Mo_further_16 rfl ?_
        refine mz_iald d_Mo_further_17 (by omega) (by assumption) (rfl) (by omega) ?_
        refine mj_iload_n d_Mo_further_18 rfl ?_
        refine mz_icmp_ne 24 d_Mo_further_19 (by decide) (by omega) (by omega) (fun c_19 => ?_) (fun c_19 => ?_)
        · refine mz_inc3 d_Mo_further_24 (rfl) ?_
          refine mj_goto 4 d_Mo_further_27 (by decide) ?_
          have w := ih (j + 1) (by omega) (by omega) (fun i i1 i2 => by
            by_cases e : i = j
            · subst e; exact c_19
            · exact hi i i1 (by omega))
          rw [show ((j + 1 : Nat) : Int) = (j : Int) + 1 by omega] at w
          exact w
        · refine mj_iload_n d_Mo_further_22 rfl ?_
          refine mz_iret d_Mo_further_23 rfl (rfl) ?_
          exact ⟨rfl, Or.inr ⟨j, rfl, hb, by omega, c_19, hi⟩⟩
  have w := loop (6 - (be + 1).toNat) (be + 1).toNat (by omega) (by omega) (fun i i1 i2 => by omega)
  rw [show (((be + 1).toNat : Nat) : Int) = be + 1 by omega] at w
  exact w
end MO3
