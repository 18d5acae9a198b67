/-! the class itself: the methods that may throw -/
def mj_bp (S : mj_S) : mj_S := (S.1, S.2.1, S.2.2 + 1)
section IL5
variable {Γ : mj_G} {d L n h : Nat} {S : mj_S} {C : Nat → Int} {fp : Int} {KM : Nat → Nat} {acc : List Nat}
theorem mz_callVT1 {d1 : Nat} {M M1 : mj_M} {k n pc mc ms : Nat} {lv st : List Value} {P : mj_O → mj_S → Prop} {Q : Nat → mj_S → Prop} {y : MethodName} {idx a ci : Nat} {q : vw_C} {fs : List Value} {v1 : Value} (hd : decode M.cc pc = .ok (.invokevirtual idx, 3)) (hM : mj_Met Γ d1 y M1 [.ref a, v1] S mc ms (mj_thr Q)) (hcw : mj_cw y M1 1) (hw : Cond.methodLink M.own idx y ∈ mj_tb ∧ Cond.instanceMethod y ∈ mj_tb ∧ Cond.selects y.cls y y ∈ mj_tb)
    (hq : mj_cl[ci]? = some q) (hqc : q.1 = y.cls) (ha : a < S.2.1) (he : S.1 a = .inr (ci, fs)) (hd1 : d1 < d) (hst : Nat.ble (st.map fun v => v.category).sum 8 = true) (hht : mj_ht M = []) (hmc : mc ≤ k) (hms : ms ≤ n)
    (hk : ∀ (x : Nat) (S' : mj_S), Q x S' → P (.inr x) S') : mj_Ok Γ d M k n pc lv (v1 :: .ref a :: st) S P :=
  mj_callVT (As := [v1]) hd hM hcw hw hq hqc ha he hd1 hst hht hmc hms hk
theorem m_IL_type_ok (hI : mj_IL S L C fp n h KM acc) (hL : L < 60) {c : Int} (hc : 0 ≤ c ∧ c < 65536) (hd : 1 ≤ d) : mj_Met Γ d y_IL_type M_IL_type [.ref 0, .int (iZ c)] S 0 0 (mj_I fun z S' => mj_fr S S' mj_lo ∧ z = (L : Int) + 1 ∧ mj_IL S' (L + 1) (va_up C L c) fp n h KM acc) := by
  obtain ⟨cu, sp, ht, hw, ho, hl, hk, hcc, hs, hb⟩ := hI
  have ho0 : S.1 0 = _ := ho
  have l1 := hl.1
  refine mj_Met.of (by decide) ⟨rfl, rfl⟩ rfl rfl rfl ?_
  refine mj_aload_n d_IL_type_0 rfl ?_
  refine mj_get (ci := 0) (j := 0) d_IL_type_1 rfl w_IL_10 (by decide) (by omega) (by assumption) rfl ?_
  refine mj_get (ci := 1) (j := 1) d_IL_type_4 rfl w_IL_69 (by decide) (by omega) (by assumption) rfl ?_
  refine mz_bipush d_IL_type_7 (by decide) ?_
  refine mz_icmp_ne 20 d_IL_type_9 (by decide) (by omega) (by omega) (fun c_9 => ?_) (fun c_9 => ?_)
  · refine mj_aload_n d_IL_type_20 rfl ?_
    refine mj_get (ci := 0) (j := 0) d_IL_type_21 rfl w_IL_10 (by decide) (by omega) (by assumption) rfl ?_
    refine mj_iload_n d_IL_type_24 rfl ?_
    refine mz_callV1v (ci := 1) d_IL_type_25 (m_Ln_add (d := 0) hw hl hc) cw_Ln_add lk_IL_75 rfl rfl (by omega) (by assumption) (by omega) rfl (fun S_25 h_25 => ?_)
    obtain ⟨g1, g2⟩ := h_25
    rw [if_pos hL] at g2
    have ho1 : S_25.1 0 = _ := g1.at ho0 (by simp)
    have l2 := g2.1
    have hw1 := g1.w.trans hw
    refine mj_aload_n d_IL_type_28 rfl ?_
    refine mj_get (ci := 0) (j := 0) d_IL_type_29 rfl w_IL_10 (by decide) (by omega) (by assumption) rfl ?_
    refine mj_get (ci := 1) (j := 1) d_IL_type_32 rfl w_IL_69 (by decide) (by omega) (by assumption) rfl ?_
    refine mz_iret d_IL_type_35 rfl (rfl) ?_
    unfold mj_two at ht
    obtain ⟨K2, D2, n2, h2, z2, hs⟩ := hs
    exact ⟨g1.tr (mj_fr.rf _ []) (by simp) (by simp), rfl, cu, sp, ht, hw1, ho1, g2, hk.fr g1 (by simp), hcc.fr g1 (by simp; omega), ⟨K2, D2, n2, h2, z2, hs.fr g1 (by simp; omega)⟩, hb⟩
  · omega
theorem m_IL_type_no (hI : mj_IL S L C fp n h KM acc) (hL : L = 60) {c : Int} (hd : 6 ≤ d) : mj_Met Γ d y_IL_type M_IL_type [.ref 0, .int (iZ c)] S 1 6 (mj_thr fun x S' => x = 0 ∧ S' = mj_bp S) := by
  obtain ⟨cu, sp, ht, hw, ho, hl, hk, hcc, hs, hb⟩ := hI
  have ho0 : S.1 0 = _ := ho
  have l1 := hl.1
  refine mj_Met.of (by decide) ⟨rfl, rfl⟩ rfl rfl rfl ?_
  refine mj_aload_n d_IL_type_0 rfl ?_
  refine mj_get (ci := 0) (j := 0) d_IL_type_1 rfl w_IL_10 (by decide) (by omega) (by assumption) rfl ?_
  refine mj_get (ci := 1) (j := 1) d_IL_type_4 rfl w_IL_69 (by decide) (by omega) (by assumption) rfl ?_
  refine mz_bipush d_IL_type_7 (by decide) ?_
  refine mz_icmp_ne 20 d_IL_type_9 (by decide) (by omega) (by omega) (fun c_9 => ?_) (fun c_9 => ?_)
  · omega
  · exact mj_throw0 (x := 0) (Or.inl rfl) d_IL_type_12 d_IL_type_15 d_IL_type_16 d_IL_type_19 rfl (by decide) hd (by omega) (by omega) rfl ⟨rfl, rfl⟩
theorem m_IL_checkStructure_ok (hI : mj_IL S L C fp n h KM acc) {i : Int} (hi : 0 ≤ i ∧ i < acc.length) : mj_Met Γ d y_IL_checkStructure M_IL_checkStructure [.ref 0, .int (iZ i)] S 0 0 (mj_V fun S' => S' = S) := by
  obtain ⟨cu, sp, ht, hw, ho, hl, hk, ⟨KC, D, hc, -⟩, hs, hb1, hb2, hb3⟩ := hI
  unfold mj_two at ht
  have ho0 : S.1 0 = _ := ho
  have c1 := hc.1
  refine mj_Met.of (by decide) ⟨rfl, rfl⟩ rfl rfl rfl ?_
  refine mj_iload_n d_IL_checkStructure_0 rfl ?_
  refine mz_if_lt 15 d_IL_checkStructure_1 (by decide) (by omega) (fun c_1 => ?_) (fun c_1 => ?_)
  · omega
  · refine mj_iload_n d_IL_checkStructure_4 rfl ?_
    refine mj_aload_n d_IL_checkStructure_5 rfl ?_
    refine mj_get (ci := 0) (j := 7) d_IL_checkStructure_6 rfl w_IL_61 (by decide) (by omega) (by assumption) rfl ?_
    refine mj_get (ci := 8) (j := 4) d_IL_checkStructure_9 rfl w_IL_97 (by decide) (by omega) (by assumption) rfl ?_
    refine mz_icmp_lt 23 d_IL_checkStructure_12 (by decide) (by omega) (by omega) (fun c_12 => ?_) (fun c_12 => ?_)
    · refine mz_vret d_IL_checkStructure_23 rfl ?_
      exact rfl
    · omega
theorem m_IL_checkStructure_no (hI : mj_IL S L C fp n h KM acc) {i : Int} (hir : iR i) (hi : ¬ (0 ≤ i ∧ i < acc.length)) (hd : 6 ≤ d) : mj_Met Γ d y_IL_checkStructure M_IL_checkStructure [.ref 0, .int (iZ i)] S 1 6 (mj_thr fun x S' => x = 1 ∧ S' = mj_bp S) := by
  obtain ⟨cu, sp, ht, hw, ho, hl, hk, ⟨KC, D, hc, -⟩, hs, hb1, hb2, hb3⟩ := hI
  unfold mj_two at ht
  have ho0 : S.1 0 = _ := ho
  have c1 := hc.1
  have thr : mj_Ok Γ d M_IL_checkStructure 1 6 15 [.ref 0, .int (iZ i)] [] S (mj_thr fun x S' => x = 1 ∧ S' = mj_bp S) := mj_throw0 (x := 1) (Or.inr rfl) d_IL_checkStructure_15 d_IL_checkStructure_18 d_IL_checkStructure_19 d_IL_checkStructure_22 rfl (by decide) hd (by omega) (by omega) rfl ⟨rfl, rfl⟩
  refine mj_Met.of (by decide) ⟨rfl, rfl⟩ rfl rfl rfl ?_
  refine mj_iload_n d_IL_checkStructure_0 rfl ?_
  refine mz_if_lt 15 d_IL_checkStructure_1 (by decide) (hir) (fun c_1 => ?_) (fun c_1 => ?_)
  · exact thr
  · refine mj_iload_n d_IL_checkStructure_4 rfl ?_
    refine mj_aload_n d_IL_checkStructure_5 rfl ?_
    refine mj_get (ci := 0) (j := 7) d_IL_checkStructure_6 rfl w_IL_61 (by decide) (by omega) (by assumption) rfl ?_
    refine mj_get (ci := 8) (j := 4) d_IL_checkStructure_9 rfl w_IL_97 (by decide) (by omega) (by assumption) rfl ?_
    refine mz_icmp_lt 23 d_IL_checkStructure_12 (by decide) (hir) (by omega) (fun c_12 => ?_) (fun c_12 => ?_)
    · omega
    · exact thr
theorem m_IL_checkAtom_ok (hI : mj_IL S L C fp n h KM acc) {i : Int} (hi : 0 ≤ i ∧ i < n) : mj_Met Γ d y_IL_checkAtom M_IL_checkAtom [.ref 0, .int (iZ i)] S 0 0 (mj_V fun S' => S' = S) := by
  obtain ⟨cu, sp, ht, hw, ho, hl, hk, ⟨KC, D, hc, -⟩, hs, hb1, hb2, hb3⟩ := hI
  unfold mj_two at ht
  have ho0 : S.1 0 = _ := ho
  have c1 := hc.1
  refine mj_Met.of (by decide) ⟨rfl, rfl⟩ rfl rfl rfl ?_
  refine mj_iload_n d_IL_checkAtom_0 rfl ?_
  refine mz_if_lt 15 d_IL_checkAtom_1 (by decide) (by omega) (fun c_1 => ?_) (fun c_1 => ?_)
  · omega
  · refine mj_iload_n d_IL_checkAtom_4 rfl ?_
    refine mj_aload_n d_IL_checkAtom_5 rfl ?_
    refine mj_get (ci := 0) (j := 7) d_IL_checkAtom_6 rfl w_IL_61 (by decide) (by omega) (by assumption) rfl ?_
    refine mj_get (ci := 8) (j := 2) d_IL_checkAtom_9 rfl w_IL_109 (by decide) (by omega) (by assumption) rfl ?_
    refine mz_icmp_lt 23 d_IL_checkAtom_12 (by decide) (by omega) (by omega) (fun c_12 => ?_) (fun c_12 => ?_)
    · refine mz_vret d_IL_checkAtom_23 rfl ?_
      exact rfl
    · omega
theorem m_IL_checkAtom_no (hI : mj_IL S L C fp n h KM acc) {i : Int} (hir : iR i) (hi : ¬ (0 ≤ i ∧ i < n)) (hd : 6 ≤ d) : mj_Met Γ d y_IL_checkAtom M_IL_checkAtom [.ref 0, .int (iZ i)] S 1 6 (mj_thr fun x S' => x = 1 ∧ S' = mj_bp S) := by
  obtain ⟨cu, sp, ht, hw, ho, hl, hk, ⟨KC, D, hc, -⟩, hs, hb1, hb2, hb3⟩ := hI
  unfold mj_two at ht
  have ho0 : S.1 0 = _ := ho
  have c1 := hc.1
  have thr : mj_Ok Γ d M_IL_checkAtom 1 6 15 [.ref 0, .int (iZ i)] [] S (mj_thr fun x S' => x = 1 ∧ S' = mj_bp S) := mj_throw0 (x := 1) (Or.inr rfl) d_IL_checkAtom_15 d_IL_checkAtom_18 d_IL_checkAtom_19 d_IL_checkAtom_22 rfl (by decide) hd (by omega) (by omega) rfl ⟨rfl, rfl⟩
  refine mj_Met.of (by decide) ⟨rfl, rfl⟩ rfl rfl rfl ?_
  refine mj_iload_n d_IL_checkAtom_0 rfl ?_
  refine mz_if_lt 15 d_IL_checkAtom_1 (by decide) (hir) (fun c_1 => ?_) (fun c_1 => ?_)
  · exact thr
  · refine mj_iload_n d_IL_checkAtom_4 rfl ?_
    refine mj_aload_n d_IL_checkAtom_5 rfl ?_
    refine mj_get (ci := 0) (j := 7) d_IL_checkAtom_6 rfl w_IL_61 (by decide) (by omega) (by assumption) rfl ?_
    refine mj_get (ci := 8) (j := 2) d_IL_checkAtom_9 rfl w_IL_109 (by decide) (by omega) (by assumption) rfl ?_
    refine mz_icmp_lt 23 d_IL_checkAtom_12 (by decide) (hir) (by omega) (fun c_12 => ?_) (fun c_12 => ?_)
    · omega
    · exact thr
theorem m_IL_element_ok (hI : mj_IL S L C fp n h KM acc) {a : Nat} (ha : a < n) (hd : 1 ≤ d) : mj_Met Γ d y_IL_element M_IL_element [.ref 0, .int (iZ a)] S 0 0 (mj_I fun z S' => S' = S ∧ z = KM a) := by
  have hI0 := hI
  obtain ⟨cu, sp, ht, hw, ho, hl, hk, ⟨KC, D, hc, hK, -⟩, hs, hb1, hb2, hb3⟩ := hI
  unfold mj_two at ht
  have ho0 : S.1 0 = _ := ho
  have c1 := hc.1
  have c2 := hc.2.1
  refine mj_Met.of (by decide) ⟨rfl, rfl⟩ rfl rfl rfl ?_
  refine mj_aload_n d_IL_element_0 rfl ?_
  refine mj_iload_n d_IL_element_1 rfl ?_
  refine mz_callV1v (ci := 0) d_IL_element_2 (m_IL_checkAtom_ok (d := 0) hI0 (by omega)) cw_IL_checkAtom lk_IL_115 rfl rfl (by omega) (by assumption) (by omega) rfl (fun S_2 h_2 => ?_)
  have h_2 : S_2 = S := h_2
  rw [h_2]
  refine mj_aload_n d_IL_element_5 rfl ?_
  refine mj_get (ci := 0) (j := 7) d_IL_element_6 rfl w_IL_61 (by decide) (by omega) (by assumption) rfl ?_
  refine mj_get (ci := 8) (j := 0) d_IL_element_9 rfl w_IL_119 (by decide) (by omega) (by assumption) rfl ?_
  refine mj_iload_n d_IL_element_12 rfl ?_
  refine mz_iald (j := a) d_IL_element_13 (by omega) (by assumption) (by omega) (by omega) ?_
  refine mz_iret d_IL_element_14 rfl (rfl) ?_
  exact ⟨rfl, (hK a ha).1⟩
theorem m_IL_element_no (hI : mj_IL S L C fp n h KM acc) {a : Int} (har : iR a) (ha : ¬ (0 ≤ a ∧ a < n)) (hd : 7 ≤ d) : mj_Met Γ d y_IL_element M_IL_element [.ref 0, .int (iZ a)] S 1 6 (mj_thr fun x S' => x = 1 ∧ S' = mj_bp S) := by
  have hI0 := hI
  obtain ⟨cu, sp, ht, hw, ho, hl, hk, hc, hs, hb1, hb2, hb3⟩ := hI
  have ho0 : S.1 0 = _ := ho
  refine mj_Met.of (by decide) ⟨rfl, rfl⟩ rfl rfl rfl ?_
  refine mj_aload_n d_IL_element_0 rfl ?_
  refine mj_iload_n d_IL_element_1 rfl ?_
  exact mz_callVT1 (ci := 0) d_IL_element_2 (m_IL_checkAtom_no (d := 6) hI0 har ha (by omega)) cw_IL_checkAtom lk_IL_115 rfl rfl (by omega) ho0 (by omega) rfl (by decide) (by omega) (by omega) (fun _ _ h => h)
/-- the object with another molecule shown -/
theorem mj_IL.shown {S' : mj_S} {n1 : Nat} {K F B : Nat → Int} (hI : mj_IL S L C fp n h KM acc) (hf : mj_fr S S' [33, 34, 35, 36]) (hm : mj_ml S' 33 n1 K F B) : mj_IL S' L C fp n h KM acc := by
  obtain ⟨cu, sp, ht, hw, ho, hl, hk, hc, hs, hb⟩ := hI
  have ht0 := ht
  unfold mj_two at ht
  have hk' : mj_wk S' := by
    obtain ⟨⟨a1, A1, q1⟩, ⟨t, q2⟩, ⟨r, CF, RS, RE, q3, q4, q5, q6⟩, q7, ⟨V, GA, q8, q9, q10⟩, ⟨o9, K9, F9, B9, q11⟩, -⟩ := hk
    exact ⟨⟨a1, A1, q1.fr hf (by simp) (by simp)⟩, ⟨t, q2.fr hf (by simp)⟩, ⟨r, CF, RS, RE, hf.at q3 (by simp), hf.at q4 (by simp), hf.at q5 (by simp), hf.at q6 (by simp)⟩, q7.fr hf (by simp) (by simp) (by simp), ⟨V, GA, hf.at q8 (by simp), hf.at q9 (by simp), hf.at q10 (by simp)⟩, ⟨o9, K9, F9, B9, q11.fr hf (by simp)⟩, ⟨_, _, _, _, hm⟩⟩
  obtain ⟨K2, D2, n2, h2, z2, hs⟩ := hs
  exact ⟨cu, sp, ht0, hf.w.trans hw, hf.at ho (by simp), hl.fr hf (by simp) (by simp), hk', hc.fr hf (by simp; omega), ⟨K2, D2, n2, h2, z2, hs.fr hf (by simp; omega)⟩, hb⟩
/-- structure i of the list as it is shown -/
def mj_shw (S' : mj_S) (n : Nat) (KM : Nat → Nat) (c : Nat) (K F B : Nat → Int) : Prop := mj_ml S' 33 n K F B ∧ (∀ j, j < n → K j = KM j ∧ KM j < 9) ∧ (∀ x y, x < 6 → y < 6 → B (x * 6 + y) = bv c n x y) ∧ ∀ j, j < n → F j + mj_rs B j = mj_VAL (KM j)
theorem m_IL_bond_ok (hT : mj_tab Γ) (hI : mj_IL S L C fp n h KM acc) (hac : ∀ j, j < acc.length → acc.getD j 0 < 2 ^ 30) {i a b : Nat} (hi : i < acc.length) (ha : a < n) (hb : b < n) (hd : 4 ≤ d) : mj_Met Γ d y_IL_bond M_IL_bond [.ref 0, .int (iZ i), .int (iZ a), .int (iZ b)] S 0 0 (mj_I fun z S' => mj_fr S S' mj_lo ∧ z = bv (acc.getD i 0) n a b ∧ mj_IL S' L C fp n h KM acc) := by
  have hI0 := hI
  obtain ⟨cu, sp, ht, hw, ho, hl, hk, ⟨KC, D, hc, hK, hD⟩, hs, hb1, hb2, hb3⟩ := hI
  unfold mj_two at ht
  have ho0 : S.1 0 = _ := ho
  have c1 := hc.1
  obtain ⟨o1, K1, F1, B1, hm⟩ := hk.2.2.2.2.2.2
  have m1 := hm.1
  refine mj_Met.of (by decide) ⟨rfl, rfl⟩ rfl rfl rfl ?_
  refine mj_aload_n d_IL_bond_0 rfl ?_
  refine mj_iload_n d_IL_bond_1 rfl ?_
  refine mz_callV1v (ci := 0) d_IL_bond_2 (m_IL_checkStructure_ok (d := 0) hI0 (by omega)) cw_IL_checkStructure lk_IL_122 rfl rfl (by omega) (by assumption) (by omega) rfl (fun S_2 h_2 => ?_)
  have h_2 : S_2 = S := h_2
  rw [h_2]
  refine mj_aload_n d_IL_bond_5 rfl ?_
  refine mj_iload_n d_IL_bond_6 rfl ?_
  refine mz_callV1v (ci := 0) d_IL_bond_7 (m_IL_checkAtom_ok (d := 0) hI0 (by omega)) cw_IL_checkAtom lk_IL_115 rfl rfl (by omega) (by assumption) (by omega) rfl (fun S_7 h_7 => ?_)
  have h_7 : S_7 = S := h_7
  rw [h_7]
  refine mj_aload_n d_IL_bond_10 rfl ?_
  refine mj_iload_n d_IL_bond_11 rfl ?_
  refine mz_callV1v (ci := 0) d_IL_bond_12 (m_IL_checkAtom_ok (d := 0) hI0 (by omega)) cw_IL_checkAtom lk_IL_115 rfl rfl (by omega) (by assumption) (by omega) rfl (fun S_12 h_12 => ?_)
  have h_12 : S_12 = S := h_12
  rw [h_12]
  refine mj_aload_n d_IL_bond_15 rfl ?_
  refine mj_get (ci := 0) (j := 6) d_IL_bond_16 rfl w_IL_54 (by decide) (by omega) (by assumption) rfl ?_
  refine mj_aload_n d_IL_bond_19 rfl ?_
  refine mj_get (ci := 0) (j := 7) d_IL_bond_20 rfl w_IL_61 (by decide) (by omega) (by assumption) rfl ?_
  refine mj_iload_n d_IL_bond_23 rfl ?_
  refine mz_callV2v (ci := 4) d_IL_bond_24 (m_Ml_build (d := 3) hT hw hm hc (by omega) (by omega) (fun j hj => ⟨KM j, (hK j hj).2, (hK j hj).1⟩) (by omega) (hD i (by omega) hi) (hac i hi) (by omega)) cw_Ml_build lk_IL_125 rfl rfl (by omega) (by assumption) (by omega) rfl (fun S_24 h_24 => ?_)
  obtain ⟨g1, K', F', B', g2, g3, g4, g5⟩ := h_24
  have hw2 := g1.w.trans hw
  have ho2 : S_24.1 0 = _ := g1.at ho0 (by simp)
  have m2 := g2.1
  refine mj_aload_n d_IL_bond_27 rfl ?_
  refine mj_get (ci := 0) (j := 6) d_IL_bond_28 rfl w_IL_54 (by decide) (by omega) (by assumption) rfl ?_
  refine mj_iload_n d_IL_bond_31 rfl ?_
  refine mj_iload_n d_IL_bond_32 rfl ?_
  refine mz_callV2i (ci := 4) d_IL_bond_33 (m_Ml_between (d := 0) hw2 g2 (by omega) (by omega)) cw_Ml_between lk_IL_129 rfl rfl (by omega) (by assumption) (by omega) rfl (fun z_33 S_33 h_33 => ?_)
  obtain ⟨rfl, hz⟩ := h_33
  rw [g4 a b (by omega) (by omega)] at hz
  refine mz_iret d_IL_bond_36 rfl (rfl) ?_
  exact ⟨g1.tr (mj_fr.rf _ []) (by simp) (by simp), hz, hI0.shown g1 g2⟩
theorem m_IL_bond_no (hI : mj_IL S L C fp n h KM acc) {i a b : Int} (hir : iR i) (har : iR a) (hbr : iR b) (hh : ¬ ((0 ≤ i ∧ i < acc.length) ∧ (0 ≤ a ∧ a < n) ∧ (0 ≤ b ∧ b < n))) (hd : 7 ≤ d) : mj_Met Γ d y_IL_bond M_IL_bond [.ref 0, .int (iZ i), .int (iZ a), .int (iZ b)] S 1 6 (mj_thr fun x S' => x = 1 ∧ S' = mj_bp S) := by
  have hI0 := hI
  obtain ⟨cu, sp, ht, hw, ho, hl, hk, hc, hs, hb1, hb2, hb3⟩ := hI
  have ho0 : S.1 0 = _ := ho
  refine mj_Met.of (by decide) ⟨rfl, rfl⟩ rfl rfl rfl ?_
  refine mj_aload_n d_IL_bond_0 rfl ?_
  refine mj_iload_n d_IL_bond_1 rfl ?_
  by_cases q1 : 0 ≤ i ∧ i < acc.length
  · refine mz_callV1v (ci := 0) d_IL_bond_2 (m_IL_checkStructure_ok (d := 0) hI0 q1) cw_IL_checkStructure lk_IL_122 rfl rfl (by omega) (by assumption) (by omega) rfl (fun S_2 h_2 => ?_)
    have h_2 : S_2 = S := h_2
    rw [h_2]
    refine mj_aload_n d_IL_bond_5 rfl ?_
    refine mj_iload_n d_IL_bond_6 rfl ?_
    by_cases q2 : 0 ≤ a ∧ a < n
    · refine mz_callV1v (ci := 0) d_IL_bond_7 (m_IL_checkAtom_ok (d := 0) hI0 q2) cw_IL_checkAtom lk_IL_115 rfl rfl (by omega) (by assumption) (by omega) rfl (fun S_7 h_7 => ?_)
      have h_7 : S_7 = S := h_7
      rw [h_7]
      refine mj_aload_n d_IL_bond_10 rfl ?_
      refine mj_iload_n d_IL_bond_11 rfl ?_
      exact mz_callVT1 (ci := 0) d_IL_bond_12 (m_IL_checkAtom_no (d := 6) hI0 hbr (fun q3 => hh ⟨q1, q2, q3⟩) (by omega)) cw_IL_checkAtom lk_IL_115 rfl rfl (by omega) ho0 (by omega) rfl (by decide) (by omega) (by omega) (fun _ _ h => h)
    · exact mz_callVT1 (ci := 0) d_IL_bond_7 (m_IL_checkAtom_no (d := 6) hI0 har q2 (by omega)) cw_IL_checkAtom lk_IL_115 rfl rfl (by omega) ho0 (by omega) rfl (by decide) (by omega) (by omega) (fun _ _ h => h)
  · exact mz_callVT1 (ci := 0) d_IL_bond_2 (m_IL_checkStructure_no (d := 6) hI0 hir q1 (by omega)) cw_IL_checkStructure lk_IL_122 rfl rfl (by omega) ho0 (by omega) rfl (by decide) (by omega) (by omega) (fun _ _ h => h)
theorem m_IL_hydrogens_ok (hT : mj_tab Γ) (hI : mj_IL S L C fp n h KM acc) (hac : ∀ j, j < acc.length → acc.getD j 0 < 2 ^ 30) {i a : Nat} (hi : i < acc.length) (ha : a < n) (hd : 4 ≤ d) : mj_Met Γ d y_IL_hydrogens M_IL_hydrogens [.ref 0, .int (iZ i), .int (iZ a)] S 0 0 (mj_I fun z S' => mj_fr S S' mj_lo ∧ z = mj_VAL (KM a) - mj_sum (fun y => (bv (acc.getD i 0) n a y : Int)) 6 ∧ mj_IL S' L C fp n h KM acc) := by
  have hI0 := hI
  obtain ⟨cu, sp, ht, hw, ho, hl, hk, ⟨KC, D, hc, hK, hD⟩, hs, hb1, hb2, hb3⟩ := hI
  unfold mj_two at ht
  have ho0 : S.1 0 = _ := ho
  have c1 := hc.1
  obtain ⟨o1, K1, F1, B1, hm⟩ := hk.2.2.2.2.2.2
  have m1 := hm.1
  refine mj_Met.of (by decide) ⟨rfl, rfl⟩ rfl rfl rfl ?_
  refine mj_aload_n d_IL_hydrogens_0 rfl ?_
  refine mj_iload_n d_IL_hydrogens_1 rfl ?_
  refine mz_callV1v (ci := 0) d_IL_hydrogens_2 (m_IL_checkStructure_ok (d := 0) hI0 (by omega)) cw_IL_checkStructure lk_IL_122 rfl rfl (by omega) (by assumption) (by omega) rfl (fun S_2 h_2 => ?_)
  have h_2 : S_2 = S := h_2
  rw [h_2]
  refine mj_aload_n d_IL_hydrogens_5 rfl ?_
  refine mj_iload_n d_IL_hydrogens_6 rfl ?_
  refine mz_callV1v (ci := 0) d_IL_hydrogens_7 (m_IL_checkAtom_ok (d := 0) hI0 (by omega)) cw_IL_checkAtom lk_IL_115 rfl rfl (by omega) (by assumption) (by omega) rfl (fun S_7 h_7 => ?_)
  have h_7 : S_7 = S := h_7
  rw [h_7]
  refine mj_aload_n d_IL_hydrogens_10 rfl ?_
  refine mj_get (ci := 0) (j := 6) d_IL_hydrogens_11 rfl w_IL_54 (by decide) (by omega) (by assumption) rfl ?_
  refine mj_aload_n d_IL_hydrogens_14 rfl ?_
  refine mj_get (ci := 0) (j := 7) d_IL_hydrogens_15 rfl w_IL_61 (by decide) (by omega) (by assumption) rfl ?_
  refine mj_iload_n d_IL_hydrogens_18 rfl ?_
  refine mz_callV2v (ci := 4) d_IL_hydrogens_19 (m_Ml_build (d := 3) hT hw hm hc (by omega) (by omega) (fun j hj => ⟨KM j, (hK j hj).2, (hK j hj).1⟩) (by omega) (hD i (by omega) hi) (hac i hi) (by omega)) cw_Ml_build lk_IL_125 rfl rfl (by omega) (by assumption) (by omega) rfl (fun S_19 h_19 => ?_)
  obtain ⟨g1, K', F', B', g2, g3, g4, g5⟩ := h_19
  have hw2 := g1.w.trans hw
  have ho2 : S_19.1 0 = _ := g1.at ho0 (by simp)
  have m2 := g2.1
  have m3 := g2.2.2.1
  refine mj_aload_n d_IL_hydrogens_22 rfl ?_
  refine mj_get (ci := 0) (j := 6) d_IL_hydrogens_23 rfl w_IL_54 (by decide) (by omega) (by assumption) rfl ?_
  refine mj_get (ci := 4) (j := 1) d_IL_hydrogens_26 rfl w_IL_133 (by decide) (by omega) (by assumption) rfl ?_
  refine mj_iload_n d_IL_hydrogens_29 rfl ?_
  refine mz_iald (j := a) d_IL_hydrogens_30 (by omega) (by assumption) (by omega) (by omega) ?_
  refine mz_iret d_IL_hydrogens_31 rfl (rfl) ?_
  refine ⟨g1.tr (mj_fr.rf _ []) (by simp) (by simp), ?_, hI0.shown g1 g2⟩
  have e := g5 a ha
  have e2 : mj_rs B' a = mj_sum (fun y => (bv (acc.getD i 0) n a y : Int)) 6 := mj_sum_congr 6 fun y hy => g4 a y (by omega) hy
  rw [(hK a ha).1, e2] at e
  rw [show ((KM a : Nat) : Int).toNat = KM a from by omega] at e
  omega
theorem m_IL_hydrogens_no (hI : mj_IL S L C fp n h KM acc) {i a : Int} (hir : iR i) (har : iR a) (hh : ¬ ((0 ≤ i ∧ i < acc.length) ∧ (0 ≤ a ∧ a < n))) (hd : 7 ≤ d) : mj_Met Γ d y_IL_hydrogens M_IL_hydrogens [.ref 0, .int (iZ i), .int (iZ a)] S 1 6 (mj_thr fun x S' => x = 1 ∧ S' = mj_bp S) := by
  have hI0 := hI
  obtain ⟨cu, sp, ht, hw, ho, hl, hk, hc, hs, hb1, hb2, hb3⟩ := hI
  have ho0 : S.1 0 = _ := ho
  refine mj_Met.of (by decide) ⟨rfl, rfl⟩ rfl rfl rfl ?_
  refine mj_aload_n d_IL_hydrogens_0 rfl ?_
  refine mj_iload_n d_IL_hydrogens_1 rfl ?_
  by_cases q1 : 0 ≤ i ∧ i < acc.length
  · refine mz_callV1v (ci := 0) d_IL_hydrogens_2 (m_IL_checkStructure_ok (d := 0) hI0 q1) cw_IL_checkStructure lk_IL_122 rfl rfl (by omega) (by assumption) (by omega) rfl (fun S_2 h_2 => ?_)
    have h_2 : S_2 = S := h_2
    rw [h_2]
    refine mj_aload_n d_IL_hydrogens_5 rfl ?_
    refine mj_iload_n d_IL_hydrogens_6 rfl ?_
    exact mz_callVT1 (ci := 0) d_IL_hydrogens_7 (m_IL_checkAtom_no (d := 6) hI0 har (fun q2 => hh ⟨q1, q2⟩) (by omega)) cw_IL_checkAtom lk_IL_115 rfl rfl (by omega) ho0 (by omega) rfl (by decide) (by omega) (by omega) (fun _ _ h => h)
  · exact mz_callVT1 (ci := 0) d_IL_hydrogens_2 (m_IL_checkStructure_no (d := 6) hI0 hir q1 (by omega)) cw_IL_checkStructure lk_IL_122 rfl rfl (by omega) ho0 (by omega) rfl (by decide) (by omega) (by omega) (fun _ _ h => h)
theorem m_IL_ways_ok (hT : mj_tab Γ) (hI : mj_IL S L C fp n h KM acc) (hac : ∀ j, j < acc.length → acc.getD j 0 < 2 ^ 30) {i : Nat} (hi : i < acc.length) (hn1 : 1 ≤ n) (hd : 9 ≤ d) : mj_Met Γ d y_IL_ways M_IL_ways [.ref 0, .int (iZ i)] S 0 0 (mj_I fun z S' => mj_fr S S' mj_lo ∧ z = (chI n KM (fun j => bv (acc.getD i 0) n (j / 6) (j % 6)) KM n 0 0 (fun _ => 0) (fun _ => false) (acc.getD i 0, 0)).2 ∧ mj_IL S' L C fp n h KM acc) := by
  have hI0 := hI
  obtain ⟨cu, sp, ht, hw, ho, hl, hk, ⟨KC, D, hc, hK, hD⟩, hs, hb1, hb2, hb3⟩ := hI
  have ht0 := ht
  unfold mj_two at ht
  have ho0 : S.1 0 = _ := ho
  have c1 := hc.1
  obtain ⟨o1, K1, F1, B1, hm⟩ := hk.2.2.2.2.2.2
  have m1 := hm.1
  have hDi := hD i (by omega) hi
  refine mj_Met.of (by decide) ⟨rfl, rfl⟩ rfl rfl rfl ?_
  refine mj_aload_n d_IL_ways_0 rfl ?_
  refine mj_iload_n d_IL_ways_1 rfl ?_
  refine mz_callV1v (ci := 0) d_IL_ways_2 (m_IL_checkStructure_ok (d := 0) hI0 (by omega)) cw_IL_checkStructure lk_IL_122 rfl rfl (by omega) (by assumption) (by omega) rfl (fun S_2 h_2 => ?_)
  have h_2 : S_2 = S := h_2
  rw [h_2]
  refine mj_aload_n d_IL_ways_5 rfl ?_
  refine mj_get (ci := 0) (j := 6) d_IL_ways_6 rfl w_IL_54 (by decide) (by omega) (by assumption) rfl ?_
  refine mj_aload_n d_IL_ways_9 rfl ?_
  refine mj_get (ci := 0) (j := 7) d_IL_ways_10 rfl w_IL_61 (by decide) (by omega) (by assumption) rfl ?_
  refine mj_iload_n d_IL_ways_13 rfl ?_
  refine mz_callV2v (ci := 4) d_IL_ways_14 (m_Ml_build (d := 3) hT hw hm hc (by omega) (by omega) (fun j hj => ⟨KM j, (hK j hj).2, (hK j hj).1⟩) (by omega) hDi (hac i hi) (by omega)) cw_Ml_build lk_IL_125 rfl rfl (by omega) (by assumption) (by omega) rfl (fun S_14 h_14 => ?_)
  obtain ⟨g1, K', F', B', g2, g3, g4, g5⟩ := h_14
  have hw2 := g1.w.trans hw
  have ho2 : S_14.1 0 = _ := g1.at ho0 (by simp)
  have m2 := g2.1
  have hI1 := hI0.shown g1 g2
  have hca1 := hc.fr g1 (by simp; omega)
  have c2 := hca1.1
  have c3 := hca1.2.2.1
  obtain ⟨A, g, s, CA, TA, k1, k2, k3, k4⟩ := hk.2.2.2.1.1.fr g1 (by simp) (by simp) (by simp)
  refine mj_aload_n d_IL_ways_17 rfl ?_
  refine mj_get (ci := 0) (j := 4) d_IL_ways_18 rfl w_IL_40 (by decide) (by omega) (by assumption) rfl ?_
  refine mj_aload_n d_IL_ways_21 rfl ?_
  refine mj_get (ci := 0) (j := 6) d_IL_ways_22 rfl w_IL_54 (by decide) (by omega) (by assumption) rfl ?_
  refine mj_aload_n d_IL_ways_25 rfl ?_
  refine mj_get (ci := 0) (j := 7) d_IL_ways_26 rfl w_IL_61 (by decide) (by omega) (by assumption) rfl ?_
  refine mj_get (ci := 8) (j := 0) d_IL_ways_29 rfl w_IL_119 (by decide) (by omega) (by assumption) rfl ?_
  refine mj_aload_n d_IL_ways_32 rfl ?_
  refine mj_get (ci := 0) (j := 7) d_IL_ways_33 rfl w_IL_61 (by decide) (by omega) (by assumption) rfl ?_
  refine mj_get (ci := 8) (j := 1) d_IL_ways_36 rfl w_IL_136 (by decide) (by omega) (by assumption) rfl ?_
  refine mj_iload_n d_IL_ways_39 rfl ?_
  refine mz_iald (j := i) d_IL_ways_40 (by omega) (by assumption) (by omega) (by omega) ?_
  rw [hDi]
  refine mz_callV3v (ci := 6) d_IL_ways_41 (m_Nu_search (d := 8) (KM := KM) (B := fun j => bv (acc.getD i 0) n (j / 6) (j % 6)) (KW := KM) (g1 := acc.getD i 0) hw2 k1 g2 (by omega) hca1.2.1 (by omega) k2 k3 k4 (fun j hj => by have := hK j hj; have := g3 j hj; omega) (fun j hj => by have e := g4 (j / 6) (j % 6) (by omega) (by omega); rw [show j / 6 * 6 + j % 6 = j by omega] at e; refine ⟨e, ?_⟩; show bv _ _ _ _ < 4; unfold bv; split; exact dgt_lt _ _ _; split; exact dgt_lt _ _ _; decide) (fun j hj => by have := hK j hj; omega) hb1 (hac i hi) (by omega)) cw_Nu_search lk_IL_139 rfl rfl (by omega) (by assumption) (by omega) rfl (fun S_41 h_41 => ?_)
  obtain ⟨g6, g7, g8, g9, CA', g10⟩ := h_41
  have ho3 : S_41.1 0 = _ := g6.at ho2 (by simp)
  have hw3 := g6.w.trans hw2
  have g70 : S_41.1 17 = _ := g7
  refine mj_aload_n d_IL_ways_44 rfl ?_
  refine mj_get (ci := 0) (j := 4) d_IL_ways_45 rfl w_IL_40 (by decide) (by omega) (by assumption) rfl ?_
  refine mj_get (ci := 6) (j := 4) d_IL_ways_48 rfl w_IL_143 (by decide) (by omega) (by assumption) rfl ?_
  refine mz_iret d_IL_ways_51 rfl (rfl) ?_
  refine ⟨g1.tr g6 (by simp) (by simp), rfl, ?_⟩
  obtain ⟨cu2, sp2, i1, i2, i3, i4, i5, i6, i7, i8⟩ := hI1
  have i10 := i1
  unfold mj_two at i10
  have hk9 : mj_wk S_41 := by
    obtain ⟨⟨a1, A1, q1⟩, ⟨t, q2⟩, ⟨r, CF, RS, RE, q3, q4, q5, q6⟩, q7, ⟨V, GA, q8, q9, q10⟩, ⟨o9, K9, F9, B9, q11⟩, ⟨o8, K8, F8, B8, q12⟩⟩ := i5
    exact ⟨⟨a1, A1, q1.fr g6 (by simp) (by simp)⟩, ⟨t, q2.fr g6 (by simp)⟩, ⟨r, CF, RS, RE, g6.at q3 (by simp), g6.at q4 (by simp), g6.at q5 (by simp), g6.at q6 (by simp)⟩, ⟨⟨_, _, _, _, _, g7, g10, g9, k4⟩, q7.2.fr g6 (by simp) (by simp) (by simp)⟩, ⟨V, GA, g6.at q8 (by simp), g6.at q9 (by simp), g6.at q10 (by simp)⟩, ⟨o9, K9, F9, B9, q11.fr g6 (by simp)⟩, ⟨o8, K8, F8, B8, q12.fr g6 (by simp)⟩⟩
  obtain ⟨K2, D2, n2, h2, z2, hs⟩ := i7
  exact ⟨cu2, sp2, i1, hw3, g6.at i3 (by simp), i4.fr g6 (by simp) (by simp), hk9, i6.fr g6 (by simp; omega), ⟨K2, D2, n2, h2, z2, hs.fr g6 (by simp; omega)⟩, i8⟩
theorem m_IL_ways_no (hI : mj_IL S L C fp n h KM acc) {i : Int} (hir : iR i) (hh : ¬ (0 ≤ i ∧ i < acc.length)) (hd : 7 ≤ d) : mj_Met Γ d y_IL_ways M_IL_ways [.ref 0, .int (iZ i)] S 1 6 (mj_thr fun x S' => x = 1 ∧ S' = mj_bp S) := by
  have hI0 := hI
  obtain ⟨cu, sp, ht, hw, ho, hl, hk, hc, hs, hb1, hb2, hb3⟩ := hI
  have ho0 : S.1 0 = _ := ho
  refine mj_Met.of (by decide) ⟨rfl, rfl⟩ rfl rfl rfl ?_
  refine mj_aload_n d_IL_ways_0 rfl ?_
  refine mj_iload_n d_IL_ways_1 rfl ?_
  exact mz_callVT1 (ci := 0) d_IL_ways_2 (m_IL_checkStructure_no (d := 6) hI0 hir hh (by omega)) cw_IL_checkStructure lk_IL_122 rfl rfl (by omega) ho0 (by omega) rfl (by decide) (by omega) (by omega) (fun _ _ h => h)
/-- what write writes: the molecule is the list's; what lay in the writer's rows before matters to nobody -/
def mj_wrP (n : Nat) (KM : Nat → Nat) (c : Nat) (C : Nat → Int) (p : Nat × (Nat → Int)) : Prop :=
  ∃ K B CF RS RE : Nat → Int, (∀ j, j < n → K j = KM j ∧ KM j < 9) ∧ (∀ x y, x < 6 → y < 6 → B (x * 6 + y) = bv c n x y) ∧ p = wrT n K B CF RS RE C
theorem m_IL_write_ok (hT : mj_tab Γ) (hI : mj_IL S L C fp n h KM acc) (hac : ∀ j, j < acc.length → acc.getD j 0 < 2 ^ 30) {i : Nat} (hi : i < acc.length) (hn1 : 1 ≤ n) (hd : 21 ≤ d) : mj_Met Γ d y_IL_write M_IL_write [.ref 0, .int (iZ i)] S 0 0 (mj_I fun z S' => mj_fr S S' mj_lo ∧ ∃ p, mj_wrP n KM (acc.getD i 0) C p ∧ z = p.1 ∧ mj_IL S' p.1 p.2 fp n h KM acc) := by
  have hI0 := hI
  obtain ⟨cu, sp, ht, hw, ho, hl, hk, ⟨KC, D, hc, hK, hD⟩, hs, hb1, hb2, hb3⟩ := hI
  have ht0 := ht
  unfold mj_two at ht
  have ho0 : S.1 0 = _ := ho
  have c1 := hc.1
  obtain ⟨o1, K1, F1, B1, hm⟩ := hk.2.2.2.2.2.2
  have m1 := hm.1
  have hDi := hD i (by omega) hi
  refine mj_Met.of (by decide) ⟨rfl, rfl⟩ rfl rfl rfl ?_
  refine mj_aload_n d_IL_write_0 rfl ?_
  refine mj_iload_n d_IL_write_1 rfl ?_
  refine mz_callV1v (ci := 0) d_IL_write_2 (m_IL_checkStructure_ok (d := 0) hI0 (by omega)) cw_IL_checkStructure lk_IL_122 rfl rfl (by omega) (by assumption) (by omega) rfl (fun S_2 h_2 => ?_)
  have h_2 : S_2 = S := h_2
  rw [h_2]
  refine mj_aload_n d_IL_write_5 rfl ?_
  refine mj_get (ci := 0) (j := 6) d_IL_write_6 rfl w_IL_54 (by decide) (by omega) (by assumption) rfl ?_
  refine mj_aload_n d_IL_write_9 rfl ?_
  refine mj_get (ci := 0) (j := 7) d_IL_write_10 rfl w_IL_61 (by decide) (by omega) (by assumption) rfl ?_
  refine mj_iload_n d_IL_write_13 rfl ?_
  refine mz_callV2v (ci := 4) d_IL_write_14 (m_Ml_build (d := 3) hT hw hm hc (by omega) (by omega) (fun j hj => ⟨KM j, (hK j hj).2, (hK j hj).1⟩) (by omega) hDi (hac i hi) (by omega)) cw_Ml_build lk_IL_125 rfl rfl (by omega) (by assumption) (by omega) rfl (fun S_14 h_14 => ?_)
  obtain ⟨g1, K', F', B', g2, g3, g4, g5⟩ := h_14
  have hw2 := g1.w.trans hw
  have ho2 : S_14.1 0 = _ := g1.at ho0 (by simp)
  have m2 := g2.1
  have hI1 := hI0.shown g1 g2
  obtain ⟨r, CF, RS, RE, k1, k2, k3, k4⟩ := hk.2.2.1
  have k1 := g1.at k1 (by simp)
  have k2 := g1.at k2 (by simp)
  have k3 := g1.at k3 (by simp)
  have k4 := g1.at k4 (by simp)
  have hl2 := hl.fr g1 (by simp) (by simp)
  have l1 := hl2.1
  have hBr : ∀ j, j < 36 → 0 ≤ B' j ∧ B' j ≤ 3 := fun j hj => by
    have e := g4 (j / 6) (j % 6) (by omega) (by omega)
    rw [show j / 6 * 6 + j % 6 = j by omega] at e
    have : bv (acc.getD i 0) n (j / 6) (j % 6) < 4 := by
      unfold bv
      split
      · exact dgt_lt _ _ _
      · split
        · exact dgt_lt _ _ _
        · decide
    omega
  refine mj_aload_n d_IL_write_17 rfl ?_
  refine mj_get (ci := 0) (j := 3) d_IL_write_18 rfl w_IL_33 (by decide) (by omega) (by assumption) rfl ?_
  refine mj_aload_n d_IL_write_21 rfl ?_
  refine mj_get (ci := 0) (j := 0) d_IL_write_22 rfl w_IL_10 (by decide) (by omega) (by assumption) rfl ?_
  refine mj_aload_n d_IL_write_25 rfl ?_
  refine mj_get (ci := 0) (j := 6) d_IL_write_26 rfl w_IL_54 (by decide) (by omega) (by assumption) rfl ?_
  refine mz_callV2v (ci := 5) d_IL_write_29 (m_Tw_writeAnew (d := 20) hT hw2 k1 k2 k3 k4 hl2 g2 ⟨hn1, hb1⟩ hBr (fun j hj => ⟨KM j, by have := hK j hj; have := g3 j hj; omega, (hK j hj).2⟩) (by omega)) cw_Tw_writeAnew lk_IL_146 rfl rfl (by omega) (by assumption) (by omega) rfl (fun S_29 h_29 => ?_)
  obtain ⟨g6, g7, r2, CF2, RS2, RE2, g8⟩ := h_29
  have ho3 : S_29.1 0 = _ := g6.at ho2 (by simp)
  have hw3 := g6.w.trans hw2
  have l2 := g7.1
  refine mj_aload_n d_IL_write_32 rfl ?_
  refine mj_get (ci := 0) (j := 0) d_IL_write_33 rfl w_IL_10 (by decide) (by omega) (by assumption) rfl ?_
  refine mj_get (ci := 1) (j := 1) d_IL_write_36 rfl w_IL_69 (by decide) (by omega) (by assumption) rfl ?_
  refine mz_iret d_IL_write_39 rfl (rfl) ?_
  refine ⟨g1.tr g6 (by simp) (by simp), _, ⟨K', B', CF, RS, RE, fun j hj => by have := hK j hj; have := g3 j hj; omega, g4, rfl⟩, rfl, ?_⟩
  obtain ⟨cu2, sp2, i1, i2, i3, i4, i5, i6, i7, i8⟩ := hI1
  have i10 := i1
  unfold mj_two at i10
  have hk9 : mj_wk S_29 := by
    obtain ⟨⟨a1, A1, q1⟩, ⟨t, q2⟩, -, q7, ⟨V, GA, q8, q9, q10⟩, ⟨o9, K9, F9, B9, q11⟩, ⟨o8, K8, F8, B8, q12⟩⟩ := i5
    exact ⟨⟨a1, A1, q1.fr g6 (by simp) (by simp)⟩, ⟨t, q2.fr g6 (by simp)⟩, ⟨r2, CF2, RS2, RE2, g8.1, g8.2.1, g8.2.2.1, g8.2.2.2⟩, q7.fr g6 (by simp) (by simp) (by simp), ⟨V, GA, g6.at q8 (by simp), g6.at q9 (by simp), g6.at q10 (by simp)⟩, ⟨o9, K9, F9, B9, q11.fr g6 (by simp)⟩, ⟨o8, K8, F8, B8, q12.fr g6 (by simp)⟩⟩
  obtain ⟨K2, D2, n2, h2, z2, hs⟩ := i7
  exact ⟨cu2, sp2, i1, hw3, g6.at i3 (by simp), g7, hk9, i6.fr g6 (by simp; omega), ⟨K2, D2, n2, h2, z2, hs.fr g6 (by simp; omega)⟩, i8⟩
theorem m_IL_write_no (hI : mj_IL S L C fp n h KM acc) {i : Int} (hir : iR i) (hh : ¬ (0 ≤ i ∧ i < acc.length)) (hd : 7 ≤ d) : mj_Met Γ d y_IL_write M_IL_write [.ref 0, .int (iZ i)] S 1 6 (mj_thr fun x S' => x = 1 ∧ S' = mj_bp S) := by
  have hI0 := hI
  obtain ⟨cu, sp, ht, hw, ho, hl, hk, hc, hs, hb1, hb2, hb3⟩ := hI
  have ho0 : S.1 0 = _ := ho
  refine mj_Met.of (by decide) ⟨rfl, rfl⟩ rfl rfl rfl ?_
  refine mj_aload_n d_IL_write_0 rfl ?_
  refine mj_iload_n d_IL_write_1 rfl ?_
  exact mz_callVT1 (ci := 0) d_IL_write_2 (m_IL_checkStructure_no (d := 6) hI0 hir hh (by omega)) cw_IL_checkStructure lk_IL_122 rfl rfl (by omega) ho0 (by omega) rfl (by decide) (by omega) (by omega) (fun _ _ h => h)
end IL5
