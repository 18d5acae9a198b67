/-! the law's helpers: what the class answers, or that it throws -/
theorem hk_ISE : Cond.classLink "IsomerListLaw" 13 (mj_xn 0) ∈ mj_tb := mj_mem 571 (by decide +kernel) (by decide +kernel)
theorem hk_IOB : Cond.classLink "IsomerListLaw" 19 (mj_xn 1) ∈ mj_tb := mj_mem 645 (by decide +kernel) (by decide +kernel)
theorem hc_ISE : Cond.castable (mj_xn 0) (mj_xn 0) ∈ lw_tbl := List.mem_of_getElem? (i := 578) (by decide +kernel)
theorem hc_IOB : Cond.castable (mj_xn 1) (mj_xn 1) ∈ lw_tbl := List.mem_of_getElem? (i := 656) (by decide +kernel)
theorem hi_Lw : Cond.initialized "IsomerListLaw" ∈ mj_tb := mj_mem 57 (by decide +kernel) (by decide +kernel)
theorem ch_type : mj_cwH y_Lw_type M_Lw_type 3 := ⟨mj_mem 570 (by decide +kernel) (by decide +kernel), hi_Lw, ⟨by decide, by decide, by decide⟩, by decide⟩
theorem lh_type : Cond.methodLink "IsomerListLaw" 39 y_Lw_type ∈ mj_tb ∧ Cond.static y_Lw_type ∈ mj_tb := ⟨mj_mem 568 (by decide +kernel) (by decide +kernel), mj_mem 569 (by decide +kernel) (by decide +kernel)⟩
theorem ch_element : mj_cwH y_Lw_element M_Lw_element 3 := ⟨mj_mem 644 (by decide +kernel) (by decide +kernel), hi_Lw, ⟨by decide, by decide, by decide⟩, by decide⟩
theorem lh_element : Cond.methodLink "IsomerListLaw" 69 y_Lw_element ∈ mj_tb ∧ Cond.static y_Lw_element ∈ mj_tb := ⟨mj_mem 642 (by decide +kernel) (by decide +kernel), mj_mem 643 (by decide +kernel) (by decide +kernel)⟩
theorem ch_bond : mj_cwH y_Lw_bond M_Lw_bond 5 := ⟨mj_mem 671 (by decide +kernel) (by decide +kernel), hi_Lw, ⟨by decide, by decide, by decide⟩, by decide⟩
theorem lh_bond : Cond.methodLink "IsomerListLaw" 73 y_Lw_bond ∈ mj_tb ∧ Cond.static y_Lw_bond ∈ mj_tb := ⟨mj_mem 669 (by decide +kernel) (by decide +kernel), mj_mem 670 (by decide +kernel) (by decide +kernel)⟩
theorem ch_hydrogens : mj_cwH y_Lw_hydrogens M_Lw_hydrogens 4 := ⟨mj_mem 690 (by decide +kernel) (by decide +kernel), hi_Lw, ⟨by decide, by decide, by decide⟩, by decide⟩
theorem lh_hydrogens : Cond.methodLink "IsomerListLaw" 77 y_Lw_hydrogens ∈ mj_tb ∧ Cond.static y_Lw_hydrogens ∈ mj_tb := ⟨mj_mem 688 (by decide +kernel) (by decide +kernel), mj_mem 689 (by decide +kernel) (by decide +kernel)⟩
theorem ch_ways : mj_cwH y_Lw_ways M_Lw_ways 3 := ⟨mj_mem 697 (by decide +kernel) (by decide +kernel), hi_Lw, ⟨by decide, by decide, by decide⟩, by decide⟩
theorem lh_ways : Cond.methodLink "IsomerListLaw" 81 y_Lw_ways ∈ mj_tb ∧ Cond.static y_Lw_ways ∈ mj_tb := ⟨mj_mem 695 (by decide +kernel) (by decide +kernel), mj_mem 696 (by decide +kernel) (by decide +kernel)⟩
theorem ch_write : mj_cwH y_Lw_write M_Lw_write 3 := ⟨mj_mem 704 (by decide +kernel) (by decide +kernel), hi_Lw, ⟨by decide, by decide, by decide⟩, by decide⟩
theorem lh_write : Cond.methodLink "IsomerListLaw" 84 y_Lw_write ∈ mj_tb ∧ Cond.static y_Lw_write ∈ mj_tb := ⟨mj_mem 702 (by decide +kernel) (by decide +kernel), mj_mem 703 (by decide +kernel) (by decide +kernel)⟩
section LH
variable {Γ : mj_G} {d d1 : Nat} {S : mj_S} {fs : List Value} {f : Nat → Int64} {Q1 : Int → mj_S → Prop} {v1 v2 v3 : Int}
theorem h_type_ok (hw : S.2.1 = 65) (he : S.1 0 = .inr (0, fs)) (hM : mj_Met Γ d1 y_IL_type M_IL_type [.ref 0, .int (iZ v1)] S 0 0 (mj_I Q1)) (hQ : ∀ z1 S1, Q1 z1 S1 → S1.2.1 = 65 ∧ S1.1 64 = .inl (3, 1, .inr (.inl f))) (hd : d1 < d) :
    mj_MetH Γ d y_Lw_type M_Lw_type [.ref 0, .int (iZ v1), .ref 64] S 0 0 (mj_I fun z S' => z = 0 ∧ ∃ z1 S1, Q1 z1 S1 ∧ S' = mj_up S1 64 (.inl (3, 1, .inr (.inl (vp_updL f 0 (iZ z1).toInt64))))) := by
  refine mj_MetH.of (by decide) ⟨rfl, rfl⟩ rfl rfl rfl ?_
  refine mj_aload_n d_Lw_type_0 rfl ?_
  refine mz_iconst d_Lw_type_1 ?_
  refine mj_aload_n d_Lw_type_2 rfl ?_
  refine mj_iload_n d_Lw_type_3 rfl ?_
  refine mz_callV1i (ci := 0) d_Lw_type_4 (hM) cw_IL_type lk_Lw_7 rfl rfl (by omega) (by assumption) (by omega) rfl (fun z_4 S_4 h_4 => ?_)
  obtain ⟨q1, q2⟩ := hQ _ _ h_4
  refine mj_i2l d_Lw_type_7 ?_
  refine mj_last (j := 0) d_Lw_type_8 (by omega) q2 rfl (by decide) ?_
  refine mj_goto 15 d_Lw_type_9 (by decide) ?_
  refine mz_iconst d_Lw_type_15 ?_
  refine mz_iret d_Lw_type_16 rfl (rfl) ?_
  exact ⟨rfl, z_4, S_4, h_4, rfl⟩
theorem h_type_no (hw : S.2.1 = 65) (he : S.1 0 = .inr (0, fs)) (hM : mj_Met Γ d1 y_IL_type M_IL_type [.ref 0, .int (iZ v1)] S 1 6 (mj_thr fun x S' => x = 0 ∧ S' = mj_bp S)) (hd : d1 < d) :
    mj_MetH Γ d y_Lw_type M_Lw_type [.ref 0, .int (iZ v1), .ref 64] S 1 6 (mj_I fun z S' => z = 1 ∧ S' = mj_bp S) := by
  refine mj_MetH.of (by decide) ⟨rfl, rfl⟩ rfl rfl rfl ?_
  refine mj_aload_n d_Lw_type_0 rfl ?_
  refine mz_iconst d_Lw_type_1 ?_
  refine mj_aload_n d_Lw_type_2 rfl ?_
  refine mj_iload_n d_Lw_type_3 rfl ?_
  refine mj_callVC (k := 0) (n := 0) (As := [.int (iZ v1)]) (st := [.int (iZ 0), .ref 64]) (ci := 0) d_Lw_type_4 hM cw_IL_type lk_Lw_7 rfl rfl (by omega) he hd rfl (h1 := 0) (h2 := 9) (h3 := 12) (h4 := 13) (by decide) (by decide) hk_ISE hc_ISE (fun x S' hx => ⟨hx.1, ?_⟩)
  refine mj_OkX.ast_n d_Lw_type_12 rfl rfl rfl ?_
  refine mz_iconst d_Lw_type_13 ?_
  refine mz_iret d_Lw_type_14 rfl (rfl) ?_
  exact ⟨rfl, hx.2⟩
theorem h_element_ok (hw : S.2.1 = 65) (he : S.1 0 = .inr (0, fs)) (hM : mj_Met Γ d1 y_IL_element M_IL_element [.ref 0, .int (iZ v1)] S 0 0 (mj_I Q1)) (hQ : ∀ z1 S1, Q1 z1 S1 → S1.2.1 = 65 ∧ S1.1 64 = .inl (3, 1, .inr (.inl f))) (hd : d1 < d) :
    mj_MetH Γ d y_Lw_element M_Lw_element [.ref 0, .int (iZ v1), .ref 64] S 0 0 (mj_I fun z S' => z = 0 ∧ ∃ z1 S1, Q1 z1 S1 ∧ S' = mj_up S1 64 (.inl (3, 1, .inr (.inl (vp_updL f 0 (iZ z1).toInt64))))) := by
  refine mj_MetH.of (by decide) ⟨rfl, rfl⟩ rfl rfl rfl ?_
  refine mj_aload_n d_Lw_element_0 rfl ?_
  refine mz_iconst d_Lw_element_1 ?_
  refine mj_aload_n d_Lw_element_2 rfl ?_
  refine mj_iload_n d_Lw_element_3 rfl ?_
  refine mz_callV1i (ci := 0) d_Lw_element_4 (hM) cw_IL_element lk_Lw_15 rfl rfl (by omega) (by assumption) (by omega) rfl (fun z_4 S_4 h_4 => ?_)
  obtain ⟨q1, q2⟩ := hQ _ _ h_4
  refine mj_i2l d_Lw_element_7 ?_
  refine mj_last (j := 0) d_Lw_element_8 (by omega) q2 rfl (by decide) ?_
  refine mj_goto 15 d_Lw_element_9 (by decide) ?_
  refine mz_iconst d_Lw_element_15 ?_
  refine mz_iret d_Lw_element_16 rfl (rfl) ?_
  exact ⟨rfl, z_4, S_4, h_4, rfl⟩
theorem h_element_no (hw : S.2.1 = 65) (he : S.1 0 = .inr (0, fs)) (hM : mj_Met Γ d1 y_IL_element M_IL_element [.ref 0, .int (iZ v1)] S 1 6 (mj_thr fun x S' => x = 1 ∧ S' = mj_bp S)) (hd : d1 < d) :
    mj_MetH Γ d y_Lw_element M_Lw_element [.ref 0, .int (iZ v1), .ref 64] S 1 6 (mj_I fun z S' => z = 1 ∧ S' = mj_bp S) := by
  refine mj_MetH.of (by decide) ⟨rfl, rfl⟩ rfl rfl rfl ?_
  refine mj_aload_n d_Lw_element_0 rfl ?_
  refine mz_iconst d_Lw_element_1 ?_
  refine mj_aload_n d_Lw_element_2 rfl ?_
  refine mj_iload_n d_Lw_element_3 rfl ?_
  refine mj_callVC (k := 0) (n := 0) (As := [.int (iZ v1)]) (st := [.int (iZ 0), .ref 64]) (ci := 0) d_Lw_element_4 hM cw_IL_element lk_Lw_15 rfl rfl (by omega) he hd rfl (h1 := 0) (h2 := 9) (h3 := 12) (h4 := 19) (by decide) (by decide) hk_IOB hc_IOB (fun x S' hx => ⟨hx.1, ?_⟩)
  refine mj_OkX.ast_n d_Lw_element_12 rfl rfl rfl ?_
  refine mz_iconst d_Lw_element_13 ?_
  refine mz_iret d_Lw_element_14 rfl (rfl) ?_
  exact ⟨rfl, hx.2⟩
theorem h_bond_ok (hw : S.2.1 = 65) (he : S.1 0 = .inr (0, fs)) (hM : mj_Met Γ d1 y_IL_bond M_IL_bond [.ref 0, .int (iZ v1), .int (iZ v2), .int (iZ v3)] S 0 0 (mj_I Q1)) (hQ : ∀ z1 S1, Q1 z1 S1 → S1.2.1 = 65 ∧ S1.1 64 = .inl (3, 1, .inr (.inl f))) (hd : d1 < d) :
    mj_MetH Γ d y_Lw_bond M_Lw_bond [.ref 0, .int (iZ v1), .int (iZ v2), .int (iZ v3), .ref 64] S 0 0 (mj_I fun z S' => z = 0 ∧ ∃ z1 S1, Q1 z1 S1 ∧ S' = mj_up S1 64 (.inl (3, 1, .inr (.inl (vp_updL f 0 (iZ z1).toInt64))))) := by
  refine mj_MetH.of (by decide) ⟨rfl, rfl⟩ rfl rfl rfl ?_
  refine mj_aload d_Lw_bond_0 rfl ?_
  refine mz_iconst d_Lw_bond_2 ?_
  refine mj_aload_n d_Lw_bond_3 rfl ?_
  refine mj_iload_n d_Lw_bond_4 rfl ?_
  refine mj_iload_n d_Lw_bond_5 rfl ?_
  refine mj_iload_n d_Lw_bond_6 rfl ?_
  refine mz_callV3i (ci := 0) d_Lw_bond_7 (hM) cw_IL_bond lk_Lw_21 rfl rfl (by omega) (by assumption) (by omega) rfl (fun z_7 S_7 h_7 => ?_)
  obtain ⟨q1, q2⟩ := hQ _ _ h_7
  refine mj_i2l d_Lw_bond_10 ?_
  refine mj_last (j := 0) d_Lw_bond_11 (by omega) q2 rfl (by decide) ?_
  refine mj_goto 19 d_Lw_bond_12 (by decide) ?_
  refine mz_iconst d_Lw_bond_19 ?_
  refine mz_iret d_Lw_bond_20 rfl (rfl) ?_
  exact ⟨rfl, z_7, S_7, h_7, rfl⟩
theorem h_bond_no (hw : S.2.1 = 65) (he : S.1 0 = .inr (0, fs)) (hM : mj_Met Γ d1 y_IL_bond M_IL_bond [.ref 0, .int (iZ v1), .int (iZ v2), .int (iZ v3)] S 1 6 (mj_thr fun x S' => x = 1 ∧ S' = mj_bp S)) (hd : d1 < d) :
    mj_MetH Γ d y_Lw_bond M_Lw_bond [.ref 0, .int (iZ v1), .int (iZ v2), .int (iZ v3), .ref 64] S 1 6 (mj_I fun z S' => z = 1 ∧ S' = mj_bp S) := by
  refine mj_MetH.of (by decide) ⟨rfl, rfl⟩ rfl rfl rfl ?_
  refine mj_aload d_Lw_bond_0 rfl ?_
  refine mz_iconst d_Lw_bond_2 ?_
  refine mj_aload_n d_Lw_bond_3 rfl ?_
  refine mj_iload_n d_Lw_bond_4 rfl ?_
  refine mj_iload_n d_Lw_bond_5 rfl ?_
  refine mj_iload_n d_Lw_bond_6 rfl ?_
  refine mj_callVC (k := 0) (n := 0) (As := [.int (iZ v1), .int (iZ v2), .int (iZ v3)]) (st := [.int (iZ 0), .ref 64]) (ci := 0) d_Lw_bond_7 hM cw_IL_bond lk_Lw_21 rfl rfl (by omega) he hd rfl (h1 := 0) (h2 := 12) (h3 := 15) (h4 := 19) (by decide) (by decide) hk_IOB hc_IOB (fun x S' hx => ⟨hx.1, ?_⟩)
  refine mj_OkX.ast d_Lw_bond_15 rfl rfl rfl ?_
  refine mz_iconst d_Lw_bond_17 ?_
  refine mz_iret d_Lw_bond_18 rfl (rfl) ?_
  exact ⟨rfl, hx.2⟩
theorem h_hydrogens_ok (hw : S.2.1 = 65) (he : S.1 0 = .inr (0, fs)) (hM : mj_Met Γ d1 y_IL_hydrogens M_IL_hydrogens [.ref 0, .int (iZ v1), .int (iZ v2)] S 0 0 (mj_I Q1)) (hQ : ∀ z1 S1, Q1 z1 S1 → S1.2.1 = 65 ∧ S1.1 64 = .inl (3, 1, .inr (.inl f))) (hd : d1 < d) :
    mj_MetH Γ d y_Lw_hydrogens M_Lw_hydrogens [.ref 0, .int (iZ v1), .int (iZ v2), .ref 64] S 0 0 (mj_I fun z S' => z = 0 ∧ ∃ z1 S1, Q1 z1 S1 ∧ S' = mj_up S1 64 (.inl (3, 1, .inr (.inl (vp_updL f 0 (iZ z1).toInt64))))) := by
  refine mj_MetH.of (by decide) ⟨rfl, rfl⟩ rfl rfl rfl ?_
  refine mj_aload_n d_Lw_hydrogens_0 rfl ?_
  refine mz_iconst d_Lw_hydrogens_1 ?_
  refine mj_aload_n d_Lw_hydrogens_2 rfl ?_
  refine mj_iload_n d_Lw_hydrogens_3 rfl ?_
  refine mj_iload_n d_Lw_hydrogens_4 rfl ?_
  refine mz_callV2i (ci := 0) d_Lw_hydrogens_5 (hM) cw_IL_hydrogens lk_Lw_25 rfl rfl (by omega) (by assumption) (by omega) rfl (fun z_5 S_5 h_5 => ?_)
  obtain ⟨q1, q2⟩ := hQ _ _ h_5
  refine mj_i2l d_Lw_hydrogens_8 ?_
  refine mj_last (j := 0) d_Lw_hydrogens_9 (by omega) q2 rfl (by decide) ?_
  refine mj_goto 17 d_Lw_hydrogens_10 (by decide) ?_
  refine mz_iconst d_Lw_hydrogens_17 ?_
  refine mz_iret d_Lw_hydrogens_18 rfl (rfl) ?_
  exact ⟨rfl, z_5, S_5, h_5, rfl⟩
theorem h_hydrogens_no (hw : S.2.1 = 65) (he : S.1 0 = .inr (0, fs)) (hM : mj_Met Γ d1 y_IL_hydrogens M_IL_hydrogens [.ref 0, .int (iZ v1), .int (iZ v2)] S 1 6 (mj_thr fun x S' => x = 1 ∧ S' = mj_bp S)) (hd : d1 < d) :
    mj_MetH Γ d y_Lw_hydrogens M_Lw_hydrogens [.ref 0, .int (iZ v1), .int (iZ v2), .ref 64] S 1 6 (mj_I fun z S' => z = 1 ∧ S' = mj_bp S) := by
  refine mj_MetH.of (by decide) ⟨rfl, rfl⟩ rfl rfl rfl ?_
  refine mj_aload_n d_Lw_hydrogens_0 rfl ?_
  refine mz_iconst d_Lw_hydrogens_1 ?_
  refine mj_aload_n d_Lw_hydrogens_2 rfl ?_
  refine mj_iload_n d_Lw_hydrogens_3 rfl ?_
  refine mj_iload_n d_Lw_hydrogens_4 rfl ?_
  refine mj_callVC (k := 0) (n := 0) (As := [.int (iZ v1), .int (iZ v2)]) (st := [.int (iZ 0), .ref 64]) (ci := 0) d_Lw_hydrogens_5 hM cw_IL_hydrogens lk_Lw_25 rfl rfl (by omega) he hd rfl (h1 := 0) (h2 := 10) (h3 := 13) (h4 := 19) (by decide) (by decide) hk_IOB hc_IOB (fun x S' hx => ⟨hx.1, ?_⟩)
  refine mj_OkX.ast d_Lw_hydrogens_13 rfl rfl rfl ?_
  refine mz_iconst d_Lw_hydrogens_15 ?_
  refine mz_iret d_Lw_hydrogens_16 rfl (rfl) ?_
  exact ⟨rfl, hx.2⟩
theorem h_ways_ok (hw : S.2.1 = 65) (he : S.1 0 = .inr (0, fs)) (hM : mj_Met Γ d1 y_IL_ways M_IL_ways [.ref 0, .int (iZ v1)] S 0 0 (mj_I Q1)) (hQ : ∀ z1 S1, Q1 z1 S1 → S1.2.1 = 65 ∧ S1.1 64 = .inl (3, 1, .inr (.inl f))) (hd : d1 < d) :
    mj_MetH Γ d y_Lw_ways M_Lw_ways [.ref 0, .int (iZ v1), .ref 64] S 0 0 (mj_I fun z S' => z = 0 ∧ ∃ z1 S1, Q1 z1 S1 ∧ S' = mj_up S1 64 (.inl (3, 1, .inr (.inl (vp_updL f 0 (iZ z1).toInt64))))) := by
  refine mj_MetH.of (by decide) ⟨rfl, rfl⟩ rfl rfl rfl ?_
  refine mj_aload_n d_Lw_ways_0 rfl ?_
  refine mz_iconst d_Lw_ways_1 ?_
  refine mj_aload_n d_Lw_ways_2 rfl ?_
  refine mj_iload_n d_Lw_ways_3 rfl ?_
  refine mz_callV1i (ci := 0) d_Lw_ways_4 (hM) cw_IL_ways lk_Lw_29 rfl rfl (by omega) (by assumption) (by omega) rfl (fun z_4 S_4 h_4 => ?_)
  obtain ⟨q1, q2⟩ := hQ _ _ h_4
  refine mj_i2l d_Lw_ways_7 ?_
  refine mj_last (j := 0) d_Lw_ways_8 (by omega) q2 rfl (by decide) ?_
  refine mj_goto 15 d_Lw_ways_9 (by decide) ?_
  refine mz_iconst d_Lw_ways_15 ?_
  refine mz_iret d_Lw_ways_16 rfl (rfl) ?_
  exact ⟨rfl, z_4, S_4, h_4, rfl⟩
theorem h_ways_no (hw : S.2.1 = 65) (he : S.1 0 = .inr (0, fs)) (hM : mj_Met Γ d1 y_IL_ways M_IL_ways [.ref 0, .int (iZ v1)] S 1 6 (mj_thr fun x S' => x = 1 ∧ S' = mj_bp S)) (hd : d1 < d) :
    mj_MetH Γ d y_Lw_ways M_Lw_ways [.ref 0, .int (iZ v1), .ref 64] S 1 6 (mj_I fun z S' => z = 1 ∧ S' = mj_bp S) := by
  refine mj_MetH.of (by decide) ⟨rfl, rfl⟩ rfl rfl rfl ?_
  refine mj_aload_n d_Lw_ways_0 rfl ?_
  refine mz_iconst d_Lw_ways_1 ?_
  refine mj_aload_n d_Lw_ways_2 rfl ?_
  refine mj_iload_n d_Lw_ways_3 rfl ?_
  refine mj_callVC (k := 0) (n := 0) (As := [.int (iZ v1)]) (st := [.int (iZ 0), .ref 64]) (ci := 0) d_Lw_ways_4 hM cw_IL_ways lk_Lw_29 rfl rfl (by omega) he hd rfl (h1 := 0) (h2 := 9) (h3 := 12) (h4 := 19) (by decide) (by decide) hk_IOB hc_IOB (fun x S' hx => ⟨hx.1, ?_⟩)
  refine mj_OkX.ast_n d_Lw_ways_12 rfl rfl rfl ?_
  refine mz_iconst d_Lw_ways_13 ?_
  refine mz_iret d_Lw_ways_14 rfl (rfl) ?_
  exact ⟨rfl, hx.2⟩
theorem h_write_ok (hw : S.2.1 = 65) (he : S.1 0 = .inr (0, fs)) (hM : mj_Met Γ d1 y_IL_write M_IL_write [.ref 0, .int (iZ v1)] S 0 0 (mj_I Q1)) (hQ : ∀ z1 S1, Q1 z1 S1 → S1.2.1 = 65 ∧ S1.1 64 = .inl (3, 1, .inr (.inl f))) (hd : d1 < d) :
    mj_MetH Γ d y_Lw_write M_Lw_write [.ref 0, .int (iZ v1), .ref 64] S 0 0 (mj_I fun z S' => z = 0 ∧ ∃ z1 S1, Q1 z1 S1 ∧ S' = mj_up S1 64 (.inl (3, 1, .inr (.inl (vp_updL f 0 (iZ z1).toInt64))))) := by
  refine mj_MetH.of (by decide) ⟨rfl, rfl⟩ rfl rfl rfl ?_
  refine mj_aload_n d_Lw_write_0 rfl ?_
  refine mz_iconst d_Lw_write_1 ?_
  refine mj_aload_n d_Lw_write_2 rfl ?_
  refine mj_iload_n d_Lw_write_3 rfl ?_
  refine mz_callV1i (ci := 0) d_Lw_write_4 (hM) cw_IL_write lk_Lw_32 rfl rfl (by omega) (by assumption) (by omega) rfl (fun z_4 S_4 h_4 => ?_)
  obtain ⟨q1, q2⟩ := hQ _ _ h_4
  refine mj_i2l d_Lw_write_7 ?_
  refine mj_last (j := 0) d_Lw_write_8 (by omega) q2 rfl (by decide) ?_
  refine mj_goto 15 d_Lw_write_9 (by decide) ?_
  refine mz_iconst d_Lw_write_15 ?_
  refine mz_iret d_Lw_write_16 rfl (rfl) ?_
  exact ⟨rfl, z_4, S_4, h_4, rfl⟩
theorem h_write_no (hw : S.2.1 = 65) (he : S.1 0 = .inr (0, fs)) (hM : mj_Met Γ d1 y_IL_write M_IL_write [.ref 0, .int (iZ v1)] S 1 6 (mj_thr fun x S' => x = 1 ∧ S' = mj_bp S)) (hd : d1 < d) :
    mj_MetH Γ d y_Lw_write M_Lw_write [.ref 0, .int (iZ v1), .ref 64] S 1 6 (mj_I fun z S' => z = 1 ∧ S' = mj_bp S) := by
  refine mj_MetH.of (by decide) ⟨rfl, rfl⟩ rfl rfl rfl ?_
  refine mj_aload_n d_Lw_write_0 rfl ?_
  refine mz_iconst d_Lw_write_1 ?_
  refine mj_aload_n d_Lw_write_2 rfl ?_
  refine mj_iload_n d_Lw_write_3 rfl ?_
  refine mj_callVC (k := 0) (n := 0) (As := [.int (iZ v1)]) (st := [.int (iZ 0), .ref 64]) (ci := 0) d_Lw_write_4 hM cw_IL_write lk_Lw_32 rfl rfl (by omega) he hd rfl (h1 := 0) (h2 := 9) (h3 := 12) (h4 := 19) (by decide) (by decide) hk_IOB hc_IOB (fun x S' hx => ⟨hx.1, ?_⟩)
  refine mj_OkX.ast_n d_Lw_write_12 rfl rfl rfl ?_
  refine mz_iconst d_Lw_write_13 ?_
  refine mz_iret d_Lw_write_14 rfl (rfl) ?_
  exact ⟨rfl, hx.2⟩
end LH
