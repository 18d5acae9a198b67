/-! the class itself: formula and read -/
/-- the first place of a code in a list, or -1 -/
def mj_fd (acc : List Nat) (c : Nat) (r : Int) : Prop := (∃ i : Nat, r = i ∧ i < acc.length ∧ acc.getD i 0 = c ∧ ∀ j, j < i → acc.getD j 0 ≠ c) ∨ (r = -1 ∧ ∀ j, j < acc.length → acc.getD j 0 ≠ c)
/-- a formula's list of codes: V, F are what the atoms may bind -/
def mj_lst (n h : Nat) (KM : Nat → Nat) (E : List Nat) : Prop := ∃ V F : Nat → Int, (∀ j, j < n → F j = mj_VAL (KM j)) ∧ (∀ a, a ≤ n → V a = mj_vs F (n - a) a) ∧ E = enF n h KM V F
def mj_same (n h : Nat) (KM : Nat → Nat) (n2 h2 : Nat) (KM2 : Nat → Nat) : Prop := n2 = n ∧ h2 = h ∧ ∀ j, j < n2 → KM2 j = KM j
section IL2
variable {Γ : mj_G} {d L n h : Nat} {S : mj_S} {C : Nat → Int} {fp : Int} {KM : Nat → Nat} {acc : List Nat}
theorem m_IL_listRest {cu sp n2 h2 : Nat} {KM2 : Nat → Nat} (hT : mj_tab Γ) (ht : mj_two cu sp) (hw : S.2.1 = 65) (ho : mj_ob S cu sp fp) (hk : mj_wk S) (hc : mj_cc S cu n h KM acc) (hs : mj_cc S sp n2 h2 KM2 []) (hn : n ≤ 6) (hh : h ≤ 1000) (hn2 : 1 ≤ n2 ∧ n2 ≤ 6) (hh2 : h2 ≤ 1000) (hd : 201 ≤ d) :
    mj_Ok Γ d M_IL_listAnew 0 0 13 [.ref 0, .ref 4, .ref sp] [] S (mj_I fun z S' => mj_fr S S' [24, 25, 26, 20, 27, 28, 29, 30, 31, 32, sp, sp + 2, cu, cu + 1, cu + 2] ∧ mj_wk S' ∧
      ((mj_same n h KM n2 h2 KM2 ∧ z = -1 ∧ mj_ob S' cu sp fp ∧ mj_cc S' cu n h KM acc ∧ mj_sp S' sp) ∨
       ∃ E, ¬ mj_same n h KM n2 h2 KM2 ∧ mj_lst n2 h2 KM2 E ∧ E.length ≤ 501 ∧ ((500 < E.length ∧ z = -6 ∧ mj_ob S' cu sp fp ∧ mj_cc S' cu n h KM acc ∧ mj_sp S' sp) ∨ (E.length ≤ 500 ∧ z = -1 ∧ mj_ob S' cu sp fp ∧ mj_cc S' cu n2 h2 KM2 E ∧ mj_sp S' sp)))) := by
  have ht0 := ht
  unfold mj_two at ht
  obtain ⟨KC, D, hca, hK, hD⟩ := hc
  obtain ⟨KC2, D2, hcb, hK2, hD2⟩ := hs
  have ho0 : S.1 0 = _ := ho
  have c1 := hca.1
  have c2 := hcb.1
  obtain ⟨k1, k2, k3, k4, ⟨V, GA, k5, k6, k7⟩, ⟨o3, K3, F3, B3, k8⟩, k9⟩ := id hk
  obtain ⟨ht1, ht2⟩ := ht
  rw [← ht2] at k5
  refine mj_aload_n d_IL_listAnew_13 rfl ?_
  refine mj_aload_n d_IL_listAnew_14 rfl ?_
  refine mj_get (ci := 0) (j := 7) d_IL_listAnew_15 rfl w_IL_61 (by decide) (by omega) (by assumption) rfl ?_
  refine mz_callV1i (ci := 8) d_IL_listAnew_18 (m_Ca_hasSameFormula (d := 0) hw hcb hca hn2.2 hn hh2 hh (fun j hj => by have := hK2 j hj; omega) (fun j hj => by have := hK j hj; omega)) cw_Ca_hasSameFormula lk_IL_163 rfl rfl (by omega) (by assumption) (by omega) rfl (fun z_18 S_18 h_18 => ?_)
  obtain ⟨rfl, hz⟩ := h_18
  have hr18 : iR z_18 := by rcases hz with ⟨q, _⟩ | ⟨q, _⟩ <;> rw [q] <;> decide
  refine mz_if_eq 26 d_IL_listAnew_21 (by decide) (by omega) (fun c_21 => ?_) (fun c_21 => ?_)
  · have hns : ¬ mj_same n h KM n2 h2 KM2 := by
      rcases hz with ⟨q, _⟩ | ⟨_, q⟩
      · omega
      · intro hsame
        exact q ⟨hsame.1, hsame.2.1, fun j hj => by rw [(hK2 j hj).1, (hK j (by have := hsame.1; omega)).1, hsame.2.2 j hj]⟩
    refine mj_aload_n d_IL_listAnew_26 rfl ?_
    refine mj_get (ci := 0) (j := 5) d_IL_listAnew_27 rfl w_IL_47 (by decide) (by omega) (by assumption) rfl ?_
    refine mz_callV0v (ci := 7) d_IL_listAnew_30 (m_Ls_fillDraft (d := 200) hT hw k5 k6 k8 k4.2 k7 hcb (by omega) hn2 hh2 hK2 (by omega)) cw_Ls_fillDraft lk_IL_167 rfl rfl (by omega) (by assumption) (by omega) rfl (fun S_30 h_30 => ?_)
    obtain ⟨g1, g2, g3, g4, ⟨V1, g5⟩, ⟨GA1, g6⟩, V2, F2, f1, f2, f3, D', f4, f5⟩ := h_30
    obtain ⟨E, hE⟩ : ∃ E, E = enF n2 h2 KM2 V2 F2 := ⟨_, rfl⟩
    rw [← hE] at f3 f4 f5
    have hlst : mj_lst n2 h2 KM2 E := ⟨V2, F2, f1, f2, hE⟩
    have ho1 : S_30.1 0 = _ := g1.at ho0 (by simp; omega)
    have c3 := f4.1
    have hq : ∀ j ∈ [24, 25, 26, 20, 27, 28, 29, 30, 31, 32, sp, sp + 2], j < cu ∨ cu + 2 < j := by
      intro j hj
      simp only [List.mem_cons, List.not_mem_nil, or_false] at hj
      omega
    have hca1 := hca.fr g1 hq
    have c4 := hca1.1
    have hwk1 : mj_wk S_30 := by
      obtain ⟨⟨a, A, q1⟩, ⟨t, q2⟩, ⟨r, CF, RS, RE, q3, q4, q5, q6⟩, q7, -, -, ⟨o9, K9, F9, B9, q9⟩⟩ := hk
      exact ⟨⟨a, A, q1.fr g1 (by simp; omega) (by simp; omega)⟩, ⟨t, q2.fr g1 (by intro j hj; simp only [List.mem_cons, List.not_mem_nil, or_false] at hj; omega)⟩, ⟨r, CF, RS, RE, g1.at q3 (by simp; omega), g1.at q4 (by simp; omega), g1.at q5 (by simp; omega), g1.at q6 (by simp; omega)⟩, ⟨q7.1.fr g1 (by simp; omega) (by simp; omega) (by simp; omega), g3⟩, ⟨V1, GA1, by rw [← ht2]; exact g5.1, g5.2, g6⟩, g4, ⟨o9, K9, F9, B9, q9.fr g1 (by intro j hj; simp only [List.mem_cons, List.not_mem_nil, or_false] at hj; omega)⟩⟩
    refine mj_aload_n d_IL_listAnew_33 rfl ?_
    refine mz_callV0i (ci := 8) d_IL_listAnew_34 (m_Ca_isOverfull (d := 0) g2 f4 (by omega)) cw_Ca_isOverfull lk_IL_170 rfl rfl (by omega) (by assumption) (by omega) rfl (fun z_34 S_34 h_34 => ?_)
    obtain ⟨rfl, hz2⟩ := h_34
    have hr34 : iR z_34 := by rw [hz2]; split <;> decide
    refine mz_if_eq 43 d_IL_listAnew_37 (by decide) (by omega) (fun c_37 => ?_) (fun c_37 => ?_)
    · have hle : E.length ≤ 500 := by
        by_cases q : 500 < E.length
        · rw [if_pos q] at hz2; omega
        · omega
      refine mj_aload_n d_IL_listAnew_43 rfl ?_
      refine mj_get (ci := 0) (j := 7) d_IL_listAnew_44 rfl w_IL_61 (by decide) (by omega) (by assumption) rfl ?_
      refine mj_aload_n d_IL_listAnew_47 rfl ?_
      refine mz_callV1v (ci := 8) d_IL_listAnew_48 (m_Ca_copy (d := 1) g2 hca1 f4 (by omega) (by omega)) cw_Ca_copy lk_IL_174 rfl rfl (by omega) (by assumption) (by omega) rfl (fun S_48 h_48 => ?_)
      obtain ⟨p1, KC', D'', p2, p3, p4⟩ := h_48
      have hw48 : S_48.2.1 = 65 := p1.w.trans g2
      refine mz_iconst d_IL_listAnew_51 ?_
      refine mz_iret d_IL_listAnew_52 rfl (rfl) ?_
      have f6 : mj_fr S_18 S_48 [24, 25, 26, 20, 27, 28, 29, 30, 31, 32, sp, sp + 2, cu, cu + 1, cu + 2] := g1.tr p1 (by intro j hj; simp only [List.mem_cons, List.not_mem_nil, or_false] at hj ⊢; omega) (by intro j hj; simp only [List.mem_cons, List.not_mem_nil, or_false] at hj ⊢; omega)
      refine ⟨f6, hwk1.fr p1 (by simp; omega), Or.inr ⟨E, hns, hlst, f3, Or.inr ⟨hle, rfl, p1.at ho1 (by simp; omega), ⟨KC', D'', p2, fun j hj => ?_, fun j hj hj2 => ?_⟩, KC2, D', n2, h2, E.length, f4.fr p1 (by simp; omega)⟩⟩⟩
      · rw [p3 j (by omega)]
        exact hK2 j hj
      · rw [p4 j hj]
        exact f5 j hj hj2
    · have hlt : 500 < E.length := by
        by_cases q : 500 < E.length
        · exact q
        · rw [if_neg q] at hz2; exact absurd hz2 c_37
      refine mz_bipush d_IL_listAnew_40 (by decide) ?_
      refine mz_iret d_IL_listAnew_42 rfl (rfl) ?_
      exact ⟨g1.tr (mj_fr.rf _ []) (by intro j hj; simp only [List.mem_cons, List.not_mem_nil, or_false] at hj ⊢; omega) (by simp), hwk1, Or.inr ⟨E, hns, hlst, f3, Or.inl ⟨hlt, rfl, ho1, ⟨KC, D, hca1, hK, hD⟩, KC2, D', n2, h2, E.length, f4⟩⟩⟩
  · have hsm : mj_same n h KM n2 h2 KM2 := by
      rcases hz with ⟨_, q1, q2, q3⟩ | ⟨q, _⟩
      · refine ⟨q1, q2, fun j hj => ?_⟩
        have w1 := q3 j hj
        rw [(hK2 j hj).1, (hK j (by omega)).1] at w1
        omega
      · exact absurd q c_21
    refine mz_iconst d_IL_listAnew_24 ?_
    refine mz_iret d_IL_listAnew_25 rfl (rfl) ?_
    exact ⟨mj_fr.rf _ _, hk, Or.inl ⟨hsm, rfl, ho, ⟨KC, D, hca, hK, hD⟩, KC2, D2, n2, h2, 0, hcb⟩⟩
theorem m_IL_findInList {cu sp n2 : Nat} {K2 F2 B2 : Nat → Int} {KM2 BN : Nat → Nat} (ht : mj_two cu sp) (hw : S.2.1 = 65) (ho : mj_ob S cu sp fp) (hk : mj_nuS S) (hc : mj_cc S cu n h KM acc) (hm : mj_ml S 6 n2 K2 F2 B2) (hn : n ≤ 6) (hh : h ≤ 1000) (hn2 : n2 ≤ 6) (hal : acc.length ≤ 500) (hac : ∀ j, j < acc.length → acc.getD j 0 < 2 ^ 30) (hK2 : ∀ j, j < n2 → K2 j = KM2 j ∧ KM2 j < 9) (hB2 : ∀ j, j < 36 → B2 j = BN j ∧ BN j < 4) (hF : iR (mj_sum F2 n2)) (hd : 9 ≤ d) :
    mj_Met Γ d y_IL_findInList M_IL_findInList [.ref 0, .ref 6] S 0 0 (mj_I fun z S' => mj_fr S S' [17, 18, 19] ∧ mj_nuS S' ∧
      ((¬ (n = n2 ∧ (h : Int) = mj_sum F2 n2 ∧ ∀ j, j < n → mj_cnt (fun i => (KM2 i : Int)) (KM j) n = mj_cnt (fun i => (KM i : Int)) (KM j) n) ∧ z = -1) ∨
       ((n = n2 ∧ (h : Int) = mj_sum F2 n2 ∧ ∀ j, j < n → mj_cnt (fun i => (KM2 i : Int)) (KM j) n = mj_cnt (fun i => (KM i : Int)) (KM j) n) ∧ mj_fd acc (chI n KM2 BN KM n 0 0 (fun _ => 0) (fun _ => false) (0, 0)).1 z))) := by
  unfold mj_two at ht
  obtain ⟨KC, D, hca, hK, hD⟩ := hc
  have ho0 : S.1 0 = _ := ho
  have c1 := hca.1
  have hcc : ∀ j, j < n → n = n2 → (mj_cnt K2 (KC j) n = mj_cnt KC (KC j) n ↔ mj_cnt (fun i => (KM2 i : Int)) (KM j) n = mj_cnt (fun i => (KM i : Int)) (KM j) n) := by
    intro j hj e
    rw [(hK j hj).1, mj_cnt_congr (f := K2) (g := fun i => (KM2 i : Int)) n (fun i hi => (hK2 i (by omega)).1), mj_cnt_congr (f := KC) (g := fun i => (KM i : Int)) n (fun i hi => (hK i hi).1)]
  refine mj_Met.of (by decide) ⟨rfl, rfl⟩ rfl rfl rfl ?_
  refine mj_aload_n d_IL_findInList_0 rfl ?_
  refine mj_get (ci := 0) (j := 7) d_IL_findInList_1 rfl w_IL_61 (by decide) (by omega) (by assumption) rfl ?_
  refine mj_aload_n d_IL_findInList_4 rfl ?_
  refine mz_callV1i (ci := 8) d_IL_findInList_5 (m_Ca_hasFormulaOf (d := 1) hw hca hm (by omega) hn hn2 hh (fun j hj => by have := hK j hj; omega) (fun j hj => by have := hK2 j hj; omega) hF) cw_Ca_hasFormulaOf lk_IL_178 rfl rfl (by omega) (by assumption) (by omega) rfl (fun z_5 S_5 h_5 => ?_)
  obtain ⟨rfl, hz⟩ := h_5
  have hr5 : iR z_5 := by rcases hz with ⟨q, _⟩ | ⟨q, _⟩ <;> rw [q] <;> decide
  refine mz_if_ne 13 d_IL_findInList_8 (by decide) (by omega) (fun c_8 => ?_) (fun c_8 => ?_)
  · rcases hz with ⟨q, q1, q2, q3⟩ | ⟨q, _⟩
    · subst q1
      obtain ⟨A, g, s, CA, TA, k1, k2, k3, k4⟩ := hk
      refine mj_aload_n d_IL_findInList_13 rfl ?_
      refine mj_get (ci := 0) (j := 4) d_IL_findInList_14 rfl w_IL_40 (by decide) (by omega) (by assumption) rfl ?_
      refine mj_aload_n d_IL_findInList_17 rfl ?_
      refine mj_aload_n d_IL_findInList_18 rfl ?_
      refine mj_get (ci := 0) (j := 7) d_IL_findInList_19 rfl w_IL_61 (by decide) (by omega) (by assumption) rfl ?_
      refine mj_get (ci := 8) (j := 0) d_IL_findInList_22 rfl w_IL_119 (by decide) (by omega) (by assumption) rfl ?_
      refine mz_iconst d_IL_findInList_25 ?_
      refine mz_callV3v (ci := 6) d_IL_findInList_26 (m_Nu_search (d := 8) (KM := KM2) (B := BN) (KW := KM) (g1 := 0) hw k1 hm (by omega) hca.2.1 (by omega) k2 k3 k4 (fun j hj => by have := hK2 j hj; omega) hB2 (fun j hj => by have := hK j hj; omega) hn (by omega) (by omega)) cw_Nu_search lk_IL_139 rfl rfl (by omega) (by assumption) (by omega) rfl (fun S_26 h_26 => ?_)
      obtain ⟨g1, g2, g3, g4, CA', g5⟩ := h_26
      have g20 : S_26.1 17 = _ := g2
      have ho1 : S_26.1 0 = _ := g1.at ho0 (by simp)
      have hca1 := hca.fr g1 (by intro j hj; simp only [List.mem_cons, List.not_mem_nil, or_false] at hj; omega)
      have c2 := hca1.1
      have hw1 : S_26.2.1 = 65 := g1.w.trans hw
      refine mj_aload_n d_IL_findInList_29 rfl ?_
      refine mj_get (ci := 0) (j := 7) d_IL_findInList_30 rfl w_IL_61 (by decide) (by omega) (by assumption) rfl ?_
      refine mj_aload_n d_IL_findInList_33 rfl ?_
      refine mj_get (ci := 0) (j := 4) d_IL_findInList_34 rfl w_IL_40 (by decide) (by omega) (by assumption) rfl ?_
      refine mj_get (ci := 6) (j := 3) d_IL_findInList_37 rfl w_IL_182 (by decide) (by omega) (by assumption) rfl ?_
      refine mz_callV1i (ci := 8) d_IL_findInList_40 (m_Ca_find (d := 0) hw1 hca1 hal (by omega) (fun j hj => by have := hD j (by omega) hj; have := hac j hj; omega)) cw_Ca_find lk_IL_185 rfl rfl (by omega) (by assumption) (by omega) rfl (fun z_40 S_40 h_40 => ?_)
      obtain ⟨rfl, hz2⟩ := h_40
      refine mz_iret d_IL_findInList_43 rfl (rfl) ?_
      refine ⟨g1, ⟨_, _, _, _, _, g2, g5, g4, k4⟩, Or.inr ⟨⟨rfl, q2, fun j hj => (hcc j hj rfl).mp (q3 j hj)⟩, ?_⟩⟩
      rcases hz2 with ⟨i, r1, r2, r3, r4⟩ | ⟨r1, r2⟩
      · refine Or.inl ⟨i, r1, r2, ?_, fun j hj => ?_⟩
        · have := hD i (by omega) r2; omega
        · have := hD j (by omega) (by omega); have := r4 j hj; omega
      · refine Or.inr ⟨r1, fun j hj => ?_⟩
        have := hD j (by omega) hj; have := r2 j hj; omega
    · exact absurd q c_8
  · rcases hz with ⟨q, _⟩ | ⟨_, q⟩
    · omega
    · refine mz_iconst d_IL_findInList_11 ?_
      refine mz_iret d_IL_findInList_12 rfl (rfl) ?_
      refine ⟨mj_fr.rf _ _, hk, Or.inl ⟨fun ⟨q1, q2, q3⟩ => q ⟨q1, q2, fun j hj => (hcc j hj q1).mpr (q3 j hj)⟩, rfl⟩⟩
end IL2
