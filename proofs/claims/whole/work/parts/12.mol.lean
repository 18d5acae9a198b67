/-! small static methods; the molecule's methods (a molecule at o: kinds o + 1, free o + 2, bonds o + 3) -/
def mj_ml (S : mj_S) (o n : Nat) (K F B : Nat → Int) : Prop := S.1 o = .inr (4, [.ref (o + 1), .ref (o + 2), .ref (o + 3), .int (iZ n)]) ∧ S.1 (o + 1) = .inl (0, 6, .inl (mj_z K)) ∧ S.1 (o + 2) = .inl (0, 6, .inl (mj_z F)) ∧ S.1 (o + 3) = .inl (0, 36, .inl (mj_z B)) ∧ o + 3 < 65
theorem mj_ml.fr {S S' : mj_S} {o n : Nat} {K F B : Nat → Int} {l : List Nat} (h : mj_ml S o n K F B) (hf : mj_fr S S' l) (hl : ∀ j ∈ l, j < o ∨ o + 3 < j) : mj_ml S' o n K F B := by
  have q : ∀ j, o ≤ j → j ≤ o + 3 → S'.1 j = S.1 j := fun j h1 h2 => hf.2 j fun hj => by have := hl j hj; omega
  obtain ⟨h1, h2, h3, h4, h5⟩ := h
  exact ⟨(q _ (by omega) (by omega)).trans h1, (q _ (by omega) (by omega)).trans h2, (q _ (by omega) (by omega)).trans h3, (q _ (by omega) (by omega)).trans h4, h5⟩
def mj_ca (S : mj_S) (o : Nat) (K D : Nat → Int) (n h z : Nat) : Prop := S.1 o = .inr (8, [.ref (o + 1), .ref (o + 2), .int (iZ n), .int (iZ h), .int (iZ z)]) ∧ S.1 (o + 1) = .inl (0, 6, .inl (mj_z K)) ∧ S.1 (o + 2) = .inl (0, 500, .inl (mj_z D)) ∧ o + 2 < 65
theorem mj_ca.fr {S S' : mj_S} {o n h z : Nat} {K D : Nat → Int} {l : List Nat} (hc : mj_ca S o K D n h z) (hf : mj_fr S S' l) (hl : ∀ j ∈ l, j < o ∨ o + 2 < j) : mj_ca S' o K D n h z := by
  have q : ∀ j, o ≤ j → j ≤ o + 2 → S'.1 j = S.1 j := fun j h1 h2 => hf.2 j fun hj => by have := hl j hj; omega
  obtain ⟨h1, h2, h3, h5⟩ := hc
  exact ⟨(q _ (by omega) (by omega)).trans h1, (q _ (by omega) (by omega)).trans h2, (q _ (by omega) (by omega)).trans h3, h5⟩
theorem mj_ln.fr {S S' : mj_S} {n : Nat} {C : Nat → Int} {l : List Nat} (h : mj_ln S n C) (hf : mj_fr S S' l) (h1 : 1 ∉ l) (h2 : 2 ∉ l) : mj_ln S' n C :=
  ⟨hf.at h.1 h1, hf.at h.2.1 h2, h.2.2⟩
section ML
variable {Γ : mj_G} {d : Nat} {S : mj_S}
theorem m_IL_isDigit {c : Int} (hc : iR c) : mj_Met Γ d y_IL_isDigit M_IL_isDigit [.int (iZ c)] S 0 0 (mj_I fun z S' => S' = S ∧ z = if 48 ≤ c ∧ c ≤ 57 then 1 else 0) := by
  refine mj_Met.of (by decide) ⟨rfl, rfl⟩ rfl rfl rfl ?_
  refine mj_iload_n d_IL_isDigit_0 rfl ?_
  refine mz_bipush d_IL_isDigit_1 (by decide) ?_
  refine mz_icmp_lt 16 d_IL_isDigit_3 (by decide) (by omega) (by omega) (fun c_3 => ?_) (fun c_3 => ?_)
  · refine mz_iconst d_IL_isDigit_16 ?_
    refine mz_iret d_IL_isDigit_17 rfl (rfl) ?_
    exact ⟨rfl, by rw [if_neg (by omega)]⟩
  · refine mj_iload_n d_IL_isDigit_6 rfl ?_
    refine mz_bipush d_IL_isDigit_7 (by decide) ?_
    refine mz_icmp_gt 16 d_IL_isDigit_9 (by decide) (by omega) (by omega) (fun c_9 => ?_) (fun c_9 => ?_)
    · refine mz_iconst d_IL_isDigit_16 ?_
      refine mz_iret d_IL_isDigit_17 rfl (rfl) ?_
      exact ⟨rfl, by rw [if_neg (by omega)]⟩
    · refine mz_iconst d_IL_isDigit_12 ?_
      refine mj_goto 17 d_IL_isDigit_13 (by decide) ?_
      refine mz_iret d_IL_isDigit_17 rfl (rfl) ?_
      exact ⟨rfl, by rw [if_pos (by omega)]⟩
theorem m_IL_signLength (hT : mj_tab Γ) {k : Nat} (hk : k < 10) : mj_Met Γ d y_IL_signLength M_IL_signLength [.int (iZ k)] S 0 0 (mj_I fun z S' => S' = S ∧ z = if mj_SND k = 0 then 1 else 2) := by
  have r2 := mj_SND_r k
  refine mj_Met.of (by decide) ⟨rfl, rfl⟩ rfl rfl rfl ?_
  refine mj_gets (r := 2) d_IL_signLength_0 (by decide) w_IL_189 ?_
  refine mj_iload_n d_IL_signLength_3 rfl ?_
  refine mz_crot d_IL_signLength_4 (by decide) rfl (hT.2.2) (rfl) (by omega) ?_
  refine mz_if_ne 12 d_IL_signLength_5 (by decide) (by omega) (fun c_5 => ?_) (fun c_5 => ?_)
  · refine mz_iconst d_IL_signLength_12 ?_
    refine mz_iret d_IL_signLength_13 rfl (rfl) ?_
    exact ⟨rfl, by rw [if_neg c_5]⟩
  · refine mz_iconst d_IL_signLength_8 ?_
    refine mj_goto 13 d_IL_signLength_9 (by decide) ?_
    refine mz_iret d_IL_signLength_13 rfl (rfl) ?_
    exact ⟨rfl, by rw [if_pos c_5]⟩
/-- how many of the first m are k -/
def mj_cnt (K : Nat → Int) (k : Int) : Nat → Nat
  | 0 => 0
  | m + 1 => mj_cnt K k m + if K m = k then 1 else 0
theorem mj_cnt_le (K : Nat → Int) (k : Int) (m : Nat) : mj_cnt K k m ≤ m := by
  induction m with
  | zero => exact Nat.le_refl _
  | succ m ih => unfold mj_cnt; split <;> omega
theorem m_IL_occurrences {a m N : Nat} {k : Int} {K : Nat → Int} (ha : a < S.2.1) (he : S.1 a = .inl (0, N, .inl (mj_z K))) (hN : N < 1000) (hm : m ≤ N) (hk : iR k) (hK : ∀ j, j < m → iR (K j)) : mj_Met Γ d y_IL_occurrences M_IL_occurrences [.int (iZ k), .ref a, .int (iZ m)] S 0 0 (mj_I fun z S' => S' = S ∧ z = mj_cnt K k m) := by
  refine mj_Met.of (by decide) ⟨rfl, rfl⟩ rfl rfl rfl ?_
  refine mz_iconst d_IL_occurrences_0 ?_
  refine mz_ist3 d_IL_occurrences_1 (rfl) ?_
  refine mz_iconst d_IL_occurrences_2 ?_
  refine mz_ist4 d_IL_occurrences_3 (rfl) ?_
  have loop : ∀ (q i : Nat), i + q = m → mj_Ok Γ d M_IL_occurrences 0 0 5 [.int (iZ k), .ref a, .int (iZ m), .int (iZ (mj_cnt K k i : Nat)), .int (iZ i)] [] S (mj_I fun z S' => S' = S ∧ z = mj_cnt K k m) := by
    intro q
    induction q with
    | zero =>
      intro i hi
      refine mj_iload d_IL_occurrences_5 rfl ?_
      refine mj_iload_n d_IL_occurrences_7 rfl ?_
      refine mz_icmp_ge 28 d_IL_occurrences_8 (by decide) (by omega) (by omega) (fun c_8 => ?_) (fun c_8 => ?_)
      · refine mj_iload_n d_IL_occurrences_28 rfl ?_
        refine mz_iret d_IL_occurrences_29 rfl (rfl) ?_
        exact ⟨rfl, by rw [show i = m by omega]⟩
      · omega
    | succ q ih =>
      intro i hi
      have := mj_cnt_le K k i
      have r := hK i (by omega)
      refine mj_iload d_IL_occurrences_5 rfl ?_
      refine mj_iload_n d_IL_occurrences_7 rfl ?_
      refine mz_icmp_ge 28 d_IL_occurrences_8 (by decide) (by omega) (by omega) (fun c_8 => ?_) (fun c_8 => ?_)
      · omega
      · refine mj_aload_n d_IL_occurrences_11 rfl ?_
        refine mj_iload d_IL_occurrences_12 rfl ?_
        refine mz_iald d_IL_occurrences_14 (by omega) (by assumption) (rfl) (by omega) ?_ (by omega)
        refine mj_iload_n d_IL_occurrences_15 rfl ?_
        refine mz_icmp_ne 22 d_IL_occurrences_16 (by decide) (by omega) (by omega) (fun c_16 => ?_) (fun c_16 => ?_)
        · refine mz_inc4 d_IL_occurrences_22 (rfl) ?_
          refine mj_goto 5 d_IL_occurrences_25 (by decide) ?_
          have w := ih (i + 1) (by omega)
          rw [show mj_cnt K k (i + 1) = mj_cnt K k i by simp [mj_cnt, c_16]] at w
          exact w
        · refine mz_inc3 d_IL_occurrences_19 (rfl) ?_
          refine mz_inc4 d_IL_occurrences_22 (rfl) ?_
          refine mj_goto 5 d_IL_occurrences_25 (by decide) ?_
          have w := ih (i + 1) (by omega)
          rw [show mj_cnt K k (i + 1) = mj_cnt K k i + 1 by simp [mj_cnt, c_16]] at w
          exact w
  exact loop m 0 (by omega)
theorem m_IL_rowShift {a : Int} (ha : 0 ≤ a ∧ a ≤ 5) : mj_Met Γ d y_IL_rowShift M_IL_rowShift [.int (iZ a)] S 0 0 (mj_I fun z S' => S' = S ∧ z = 30 - a * (a + 1)) := by
  refine mj_Met.of (by decide) ⟨rfl, rfl⟩ rfl rfl rfl ?_
  refine mz_bipush d_IL_rowShift_0 (by decide) ?_
  refine mj_iload_n d_IL_rowShift_2 rfl ?_
  refine mj_iload_n d_IL_rowShift_3 rfl ?_
  refine mz_iconst d_IL_rowShift_4 ?_
  refine mz_iadd d_IL_rowShift_5 ?_
  refine mz_imul d_IL_rowShift_6 ?_
  refine mz_isub d_IL_rowShift_7 ?_
  refine mz_iret d_IL_rowShift_8 rfl (rfl) ?_
  exact ⟨rfl, rfl⟩
variable {o n : Nat} {K F B : Nat → Int}
theorem m_Ml_clear (hw : S.2.1 = 65) (h : mj_ml S o n K F B) (hd : 1 ≤ d) : mj_Met Γ d y_Ml_clear M_Ml_clear [.ref o] S 0 0 (mj_V fun S' => mj_fr S S' [o, o + 3] ∧ mj_ml S' o 0 K F (mj_fl B 0 36)) := by
  obtain ⟨h1, h2, h3, h4, h5⟩ := h
  refine mj_Met.of (by decide) ⟨rfl, rfl⟩ rfl rfl rfl ?_
  refine mj_aload_n d_Ml_clear_0 rfl ?_
  refine mz_iconst d_Ml_clear_1 ?_
  refine mz_put (ci := 4) (j := 3) d_Ml_clear_2 rfl w_Ml_21 (by decide) rfl (by omega) (by assumption) (Nat.le_of_ble_eq_true rfl) (mj_fit_int _) rfl (fun S_2 w_2 e_2 f_2 => ?_)
  have h2 := f_2.at h2 (by simp; try omega)
  have h3 := f_2.at h3 (by simp; try omega)
  have h4 := f_2.at h4 (by simp; try omega)
  refine mj_aload_n d_Ml_clear_5 rfl ?_
  refine mj_get (ci := 4) (j := 2) d_Ml_clear_6 rfl w_Ml_18 (by decide) (by omega) (by assumption) rfl ?_
  refine mz_iconst d_Ml_clear_9 ?_
  refine mz_callS2v d_Ml_clear_10 (m_Ar_fill (d := 0) (by omega) h4 (by omega)) cw_Ar_fill lk_Ml_25 (by omega) rfl (fun S_10 h_10 => ?_)
  obtain ⟨f2, e2⟩ := h_10
  have e_2 := f2.at e_2 (by simp)
  have h2 := f2.at h2 (by simp; try omega)
  have h3 := f2.at h3 (by simp; try omega)
  refine mz_vret d_Ml_clear_13 rfl ?_
  exact ⟨f_2.tr f2 (by simp) (by simp), e_2, h2, h3, e2, h5⟩
theorem m_Ml_addAtom (hT : mj_tab Γ) (hw : S.2.1 = 65) (h : mj_ml S o n K F B) (hn : n < 6) {k : Nat} (hk : k < 10) : mj_Met Γ d y_Ml_addAtom M_Ml_addAtom [.ref o, .int (iZ k)] S 0 0 (mj_V fun S' => mj_fr S S' [o, o + 1, o + 2] ∧ mj_ml S' o (n + 1) (va_up K n k) (va_up F n (mj_VAL k)) B) := by
  obtain ⟨h1, h2, h3, h4, h5⟩ := h
  refine mj_Met.of (by decide) ⟨rfl, rfl⟩ rfl rfl rfl ?_
  refine mj_aload_n d_Ml_addAtom_0 rfl ?_
  refine mj_get (ci := 4) (j := 3) d_Ml_addAtom_1 rfl w_Ml_21 (by decide) (by omega) (by assumption) rfl ?_
  refine mz_bipush d_Ml_addAtom_4 (by decide) ?_
  refine mz_icmp_ge 43 d_Ml_addAtom_6 (by decide) (by omega) (by omega) (fun c_6 => ?_) (fun c_6 => ?_)
  · omega
  · refine mj_aload_n d_Ml_addAtom_9 rfl ?_
    refine mj_get (ci := 4) (j := 0) d_Ml_addAtom_10 rfl w_Ml_9 (by decide) (by omega) (by assumption) rfl ?_
    refine mj_aload_n d_Ml_addAtom_13 rfl ?_
    refine mj_get (ci := 4) (j := 3) d_Ml_addAtom_14 rfl w_Ml_21 (by decide) (by omega) (by assumption) rfl ?_
    refine mj_iload_n d_Ml_addAtom_17 rfl ?_
    refine mz_iast d_Ml_addAtom_18 (by omega) (by assumption) (rfl) (by omega) (fun S_18 w_18 e_18 f_18 => ?_)
    have h1 := f_18.at h1 (by simp; try omega)
    have h3 := f_18.at h3 (by simp; try omega)
    have h4 := f_18.at h4 (by simp; try omega)
    refine mj_aload_n d_Ml_addAtom_19 rfl ?_
    refine mj_get (ci := 4) (j := 1) d_Ml_addAtom_20 rfl w_Ml_15 (by decide) (by omega) (by assumption) rfl ?_
    refine mj_aload_n d_Ml_addAtom_23 rfl ?_
    refine mj_get (ci := 4) (j := 3) d_Ml_addAtom_24 rfl w_Ml_21 (by decide) (by omega) (by assumption) rfl ?_
    refine mj_gets (r := 0) d_Ml_addAtom_27 (by decide) w_Ml_31 ?_
    refine mj_iload_n d_Ml_addAtom_30 rfl ?_
    refine mz_irot d_Ml_addAtom_31 (by decide) rfl (hT.1) (rfl) (by omega) ?_
    refine mz_iast d_Ml_addAtom_32 (by omega) (by assumption) (rfl) (by omega) (fun S_32 w_32 e_32 f_32 => ?_)
    have h1 := f_32.at h1 (by simp; try omega)
    have h4 := f_32.at h4 (by simp; try omega)
    have e_18 := f_32.at e_18 (by simp; try omega)
    refine mj_aload_n d_Ml_addAtom_33 rfl ?_
    refine mj_dup d_Ml_addAtom_34 rfl ?_
    refine mj_get (ci := 4) (j := 3) d_Ml_addAtom_35 rfl w_Ml_21 (by decide) (by omega) (by assumption) rfl ?_
    refine mz_iconst d_Ml_addAtom_38 ?_
    refine mz_iadd d_Ml_addAtom_39 ?_
    refine mz_put (ci := 4) (j := 3) d_Ml_addAtom_40 rfl w_Ml_21 (by decide) rfl (by omega) (by assumption) (Nat.le_of_ble_eq_true rfl) (mj_fit_int _) rfl (fun S_40 w_40 e_40 f_40 => ?_)
    have h4 := f_40.at h4 (by simp; try omega)
    have e_18 := f_40.at e_18 (by simp; try omega)
    have e_32 := f_40.at e_32 (by simp; try omega)
    refine mz_vret d_Ml_addAtom_43 rfl ?_
    exact ⟨(f_18.tr f_32 (l := [o + 1, o + 2]) (by simp) (by simp)).tr f_40 (by simp; try omega) (by simp), e_40, e_18, e_32, h4, h5⟩
theorem m_Ml_between (hw : S.2.1 = 65) (h : mj_ml S o n K F B) {a b : Nat} (ha : a < 6) (hb : b < 6) : mj_Met Γ d y_Ml_between M_Ml_between [.ref o, .int (iZ a), .int (iZ b)] S 0 0 (mj_I fun z S' => S' = S ∧ z = B (a * 6 + b)) := by
  obtain ⟨h1, h2, h3, h4, h5⟩ := h
  refine mj_Met.of (by decide) ⟨rfl, rfl⟩ rfl rfl rfl ?_
  refine mj_aload_n d_Ml_between_0 rfl ?_
  refine mj_get (ci := 4) (j := 2) d_Ml_between_1 rfl w_Ml_18 (by decide) (by omega) (by assumption) rfl ?_
  refine mj_iload_n d_Ml_between_4 rfl ?_
  refine mz_bipush d_Ml_between_5 (by decide) ?_
  refine mz_imul d_Ml_between_7 ?_
  refine mj_iload_n d_Ml_between_8 rfl ?_
  refine mz_iadd d_Ml_between_9 ?_
  refine mz_iald (j := a * 6 + b) d_Ml_between_10 (by omega) (by assumption) (by omega) (by omega) ?_
  refine mz_iret d_Ml_between_11 rfl (rfl) ?_
  exact ⟨rfl, rfl⟩
theorem m_Ml_bind (hw : S.2.1 = 65) (h : mj_ml S o n K F B) (hd : 1 ≤ d) {a b : Nat} (ha : a < 6) (hb : b < 6) {v : Int} : mj_Met Γ d y_Ml_bind M_Ml_bind [.ref o, .int (iZ a), .int (iZ b), .int (iZ v)] S 0 0
    (mj_V fun S' => mj_fr S S' [o + 2, o + 3] ∧ mj_ml S' o n K (va_up (va_up F a (F a - (v - B (a * 6 + b)))) b (va_up F a (F a - (v - B (a * 6 + b))) b - (v - B (a * 6 + b)))) (va_up (va_up B (a * 6 + b) v) (b * 6 + a) v)) := by
  have hh := h
  obtain ⟨h1, h2, h3, h4, h5⟩ := h
  refine mj_Met.of (by decide) ⟨rfl, rfl⟩ rfl rfl rfl ?_
  refine mj_iload_n d_Ml_bind_0 rfl ?_
  refine mj_aload_n d_Ml_bind_1 rfl ?_
  refine mj_iload_n d_Ml_bind_2 rfl ?_
  refine mj_iload_n d_Ml_bind_3 rfl ?_
  refine mz_callV2i (ci := 4) d_Ml_bind_4 (m_Ml_between (d := 0) hw hh ha hb) cw_Ml_between lk_Ml_60 rfl rfl (by omega) (by assumption) (by omega) rfl (fun z_4 S_4 h_4 => ?_)
  obtain ⟨rfl, rfl⟩ := h_4
  refine mz_isub d_Ml_bind_7 ?_
  refine mz_ist4 d_Ml_bind_8 (rfl) ?_
  refine mj_aload_n d_Ml_bind_10 rfl ?_
  refine mj_get (ci := 4) (j := 1) d_Ml_bind_11 rfl w_Ml_15 (by decide) (by omega) (by assumption) rfl ?_
  refine mj_iload_n d_Ml_bind_14 rfl ?_
  refine mj_dup2 d_Ml_bind_15 rfl rfl ?_
  refine mz_iald d_Ml_bind_16 (by omega) (by assumption) (rfl) (by omega) ?_
  refine mj_iload d_Ml_bind_17 rfl ?_
  refine mz_isub d_Ml_bind_19 ?_
  refine mz_iast d_Ml_bind_20 (by omega) (by assumption) (rfl) (by omega) (fun S_20 w_20 e_20 f_20 => ?_)
  have h1 := f_20.at h1 (by simp; try omega)
  have h2 := f_20.at h2 (by simp; try omega)
  have h4 := f_20.at h4 (by simp; try omega)
  refine mj_aload_n d_Ml_bind_21 rfl ?_
  refine mj_get (ci := 4) (j := 1) d_Ml_bind_22 rfl w_Ml_15 (by decide) (by omega) (by assumption) rfl ?_
  refine mj_iload_n d_Ml_bind_25 rfl ?_
  refine mj_dup2 d_Ml_bind_26 rfl rfl ?_
  refine mz_iald d_Ml_bind_27 (by omega) (by assumption) (rfl) (by omega) ?_
  refine mj_iload d_Ml_bind_28 rfl ?_
  refine mz_isub d_Ml_bind_30 ?_
  refine mz_iast d_Ml_bind_31 (by omega) (by assumption) (rfl) (by omega) (fun S_31 w_31 e_31 f_31 => ?_)
  have h1 := f_31.at h1 (by simp; try omega)
  have h2 := f_31.at h2 (by simp; try omega)
  have h4 := f_31.at h4 (by simp; try omega)
  refine mj_aload_n d_Ml_bind_32 rfl ?_
  refine mj_get (ci := 4) (j := 2) d_Ml_bind_33 rfl w_Ml_18 (by decide) (by omega) (by assumption) rfl ?_
  refine mj_iload_n d_Ml_bind_36 rfl ?_
  refine mz_bipush d_Ml_bind_37 (by decide) ?_
  refine mz_imul d_Ml_bind_39 ?_
  refine mj_iload_n d_Ml_bind_40 rfl ?_
  refine mz_iadd d_Ml_bind_41 ?_
  refine mj_iload_n d_Ml_bind_42 rfl ?_
  refine mz_iast (j := a * 6 + b) d_Ml_bind_43 (by omega) (by assumption) (by omega) (by omega) (fun S_43 w_43 e_43 f_43 => ?_)
  have h1 := f_43.at h1 (by simp; try omega)
  have h2 := f_43.at h2 (by simp; try omega)
  have e_31 := f_43.at e_31 (by simp; try omega)
  refine mj_aload_n d_Ml_bind_44 rfl ?_
  refine mj_get (ci := 4) (j := 2) d_Ml_bind_45 rfl w_Ml_18 (by decide) (by omega) (by assumption) rfl ?_
  refine mj_iload_n d_Ml_bind_48 rfl ?_
  refine mz_bipush d_Ml_bind_49 (by decide) ?_
  refine mz_imul d_Ml_bind_51 ?_
  refine mj_iload_n d_Ml_bind_52 rfl ?_
  refine mz_iadd d_Ml_bind_53 ?_
  refine mj_iload_n d_Ml_bind_54 rfl ?_
  refine mz_iast (j := b * 6 + a) d_Ml_bind_55 (by omega) (by assumption) (by omega) (by omega) (fun S_55 w_55 e_55 f_55 => ?_)
  have h1 := f_55.at h1 (by simp; try omega)
  have h2 := f_55.at h2 (by simp; try omega)
  have e_31 := f_55.at e_31 (by simp; try omega)
  refine mz_vret d_Ml_bind_56 rfl ?_
  exact ⟨(f_20.tr f_31 (l := [o + 2]) (by simp) (by simp)).tr (f_43.tr f_55 (l := [o + 3]) (by simp) (by simp)) (by simp) (by simp), h1, h2, e_31, e_55, h5⟩
/-- the sum of the first m -/
def mj_sum (F : Nat → Int) : Nat → Int
  | 0 => 0
  | m + 1 => mj_sum F m + F m
theorem m_Ml_freeSum (hw : S.2.1 = 65) (h : mj_ml S o n K F B) (hn : n ≤ 6) : mj_Met Γ d y_Ml_freeSum M_Ml_freeSum [.ref o] S 0 0 (mj_I fun z S' => S' = S ∧ z = mj_sum F n) := by
  obtain ⟨h1, h2, h3, h4, h5⟩ := h
  refine mj_Met.of (by decide) ⟨rfl, rfl⟩ rfl rfl rfl ?_
  refine mz_iconst d_Ml_freeSum_0 ?_
  refine mz_ist1 d_Ml_freeSum_1 (rfl) ?_
  refine mz_iconst d_Ml_freeSum_2 ?_
  refine mz_ist2 d_Ml_freeSum_3 (rfl) ?_
  have loop : ∀ (q i : Nat), i + q = n → mj_Ok Γ d M_Ml_freeSum 0 0 4 [.ref o, .int (iZ (mj_sum F i)), .int (iZ i)] [] S (mj_I fun z S' => S' = S ∧ z = mj_sum F n) := by
    intro q
    induction q with
    | zero =>
      intro i hi
      refine mj_iload_n d_Ml_freeSum_4 rfl ?_
      refine mj_aload_n d_Ml_freeSum_5 rfl ?_
      refine mj_get (ci := 4) (j := 3) d_Ml_freeSum_6 rfl w_Ml_21 (by decide) (by omega) (by assumption) rfl ?_
      refine mz_icmp_ge 27 d_Ml_freeSum_9 (by decide) (by omega) (by omega) (fun c_9 => ?_) (fun c_9 => ?_)
      · refine mj_iload_n d_Ml_freeSum_27 rfl ?_
        refine mz_iret d_Ml_freeSum_28 rfl (rfl) ?_
        exact ⟨rfl, by rw [show i = n by omega]⟩
      · omega
    | succ q ih =>
      intro i hi
      refine mj_iload_n d_Ml_freeSum_4 rfl ?_
      refine mj_aload_n d_Ml_freeSum_5 rfl ?_
      refine mj_get (ci := 4) (j := 3) d_Ml_freeSum_6 rfl w_Ml_21 (by decide) (by omega) (by assumption) rfl ?_
      refine mz_icmp_ge 27 d_Ml_freeSum_9 (by decide) (by omega) (by omega) (fun c_9 => ?_) (fun c_9 => ?_)
      · omega
      · refine mj_iload_n d_Ml_freeSum_12 rfl ?_
        refine mj_aload_n d_Ml_freeSum_13 rfl ?_
        refine mj_get (ci := 4) (j := 1) d_Ml_freeSum_14 rfl w_Ml_15 (by decide) (by omega) (by assumption) rfl ?_
        refine mj_iload_n d_Ml_freeSum_17 rfl ?_
        refine mz_iald d_Ml_freeSum_18 (by omega) (by assumption) (rfl) (by omega) ?_
        refine mz_iadd d_Ml_freeSum_19 ?_
        refine mz_ist1 d_Ml_freeSum_20 (rfl) ?_
        refine mz_inc2 d_Ml_freeSum_21 (rfl) ?_
        refine mj_goto 4 d_Ml_freeSum_24 (by decide) ?_
        exact ih (i + 1) (by omega)
  exact loop n 0 (by omega)
theorem m_Ml_isOverbound (hw : S.2.1 = 65) (h : mj_ml S o n K F B) (hn : n ≤ 6) (hF : ∀ j, j < n → iR (F j)) : mj_Met Γ d y_Ml_isOverbound M_Ml_isOverbound [.ref o] S 0 0 (mj_I fun z S' => S' = S ∧ ((z = 1 ∧ ∃ j, j < n ∧ F j < 0) ∨ (z = 0 ∧ ∀ j, j < n → 0 ≤ F j))) := by
  obtain ⟨h1, h2, h3, h4, h5⟩ := h
  refine mj_Met.of (by decide) ⟨rfl, rfl⟩ rfl rfl rfl ?_
  refine mz_iconst d_Ml_isOverbound_0 ?_
  refine mz_ist1 d_Ml_isOverbound_1 (rfl) ?_
  have loop : ∀ (q i : Nat), i + q = n → (∀ j, j < i → 0 ≤ F j) → mj_Ok Γ d M_Ml_isOverbound 0 0 2 [.ref o, .int (iZ i)] [] S (mj_I fun z S' => S' = S ∧ ((z = 1 ∧ ∃ j, j < n ∧ F j < 0) ∨ (z = 0 ∧ ∀ j, j < n → 0 ≤ F j))) := by
    intro q
    induction q with
    | zero =>
      intro i hi hj
      refine mj_iload_n d_Ml_isOverbound_2 rfl ?_
      refine mj_aload_n d_Ml_isOverbound_3 rfl ?_
      refine mj_get (ci := 4) (j := 3) d_Ml_isOverbound_4 rfl w_Ml_21 (by decide) (by omega) (by assumption) rfl ?_
      refine mz_icmp_ge 27 d_Ml_isOverbound_7 (by decide) (by omega) (by omega) (fun c_7 => ?_) (fun c_7 => ?_)
      · refine mz_iconst d_Ml_isOverbound_27 ?_
        refine mz_iret d_Ml_isOverbound_28 rfl (rfl) ?_
        rw [show i = n by omega] at hj
        exact ⟨rfl, Or.inr ⟨rfl, hj⟩⟩
      · omega
    | succ q ih =>
      intro i hi hj
      have r := hF i (by omega)
      refine mj_iload_n d_Ml_isOverbound_2 rfl ?_
      refine mj_aload_n d_Ml_isOverbound_3 rfl ?_
      refine mj_get (ci := 4) (j := 3) d_Ml_isOverbound_4 rfl w_Ml_21 (by decide) (by omega) (by assumption) rfl ?_
      refine mz_icmp_ge 27 d_Ml_isOverbound_7 (by decide) (by omega) (by omega) (fun c_7 => ?_) (fun c_7 => ?_)
      · omega
      · refine mj_aload_n d_Ml_isOverbound_10 rfl ?_
        refine mj_get (ci := 4) (j := 1) d_Ml_isOverbound_11 rfl w_Ml_15 (by decide) (by omega) (by assumption) rfl ?_
        refine mj_iload_n d_Ml_isOverbound_14 rfl ?_
        refine mz_iald d_Ml_isOverbound_15 (by omega) (by assumption) (rfl) (by omega) ?_
        refine mz_if_ge 21 d_Ml_isOverbound_16 (by decide) (by omega) (fun c_16 => ?_) (fun c_16 => ?_)
        · refine mz_inc1 d_Ml_isOverbound_21 (rfl) ?_
          refine mj_goto 2 d_Ml_isOverbound_24 (by decide) ?_
          exact ih (i + 1) (by omega) (fun j h => by
            rcases Nat.lt_or_ge j i with w | w
            · exact hj j w
            · rw [show j = i by omega]; exact c_16)
        · refine mz_iconst d_Ml_isOverbound_19 ?_
          refine mz_iret d_Ml_isOverbound_20 rfl (rfl) ?_
          exact ⟨rfl, Or.inl ⟨rfl, i, by omega, c_16⟩⟩
  exact loop n 0 (by omega) (fun j h => absurd h (Nat.not_lt_zero j))
theorem m_Ml_addAtomsOf (hT : mj_tab Γ) (hw : S.2.1 = 65) (h : mj_ml S o n K F B) {c m hy z : Nat} {CK CD : Nat → Int} (hc : mj_ca S c CK CD m hy z) (hdis : c + 2 < o ∨ o + 3 < c) (hm : m ≤ 6) (hK : ∀ j, j < m → ∃ k : Nat, k < 9 ∧ CK j = k) (hd : 2 ≤ d) : mj_Met Γ d y_Ml_addAtomsOf M_Ml_addAtomsOf [.ref o, .ref c] S 0 0
    (mj_V fun S' => mj_fr S S' [o, o + 1, o + 2, o + 3] ∧ ∃ K' F', mj_ml S' o m K' F' (mj_fl B 0 36) ∧ ∀ j, j < m → K' j = CK j ∧ F' j = mj_VAL (CK j).toNat) := by
  refine mj_Met.of (by decide) ⟨rfl, rfl⟩ rfl rfl rfl ?_
  have h1 := h.1
  have h5 := h.2.2.2.2
  refine mj_aload_n d_Ml_addAtomsOf_0 rfl ?_
  refine mz_callV0v (ci := 4) d_Ml_addAtomsOf_1 (m_Ml_clear (d := 1) hw h (by omega)) cw_Ml_clear lk_Ml_34 rfl rfl (by omega) (by assumption) (by omega) rfl (fun S_1 h_1 => ?_)
  obtain ⟨f1, hm1⟩ := h_1
  have hc1 : mj_ca S_1 c CK CD m hy z := hc.fr f1 (by simp; try omega)
  have hw1 := f1.w
  refine mz_iconst d_Ml_addAtomsOf_4 ?_
  refine mz_ist2 d_Ml_addAtomsOf_5 (rfl) ?_
  have loop : ∀ (q i : Nat) (S1 : mj_S) (K' F' : Nat → Int), i + q = m → mj_fr S S1 [o, o + 1, o + 2, o + 3] → mj_ml S1 o i K' F' (mj_fl B 0 36) → (∀ j, j < i → K' j = CK j ∧ F' j = mj_VAL (CK j).toNat) → mj_Ok Γ d M_Ml_addAtomsOf 0 0 6 [.ref o, .ref c, .int (iZ i)] [] S1
      (mj_V fun S' => mj_fr S S' [o, o + 1, o + 2, o + 3] ∧ ∃ K' F', mj_ml S' o m K' F' (mj_fl B 0 36) ∧ ∀ j, j < m → K' j = CK j ∧ F' j = mj_VAL (CK j).toNat) := by
    intro q
    induction q with
    | zero =>
      intro i S1 K' F' hi f1 hm1 hj
      have hc1 : mj_ca S1 c CK CD m hy z := hc.fr f1 (by simp; try omega)
      have hw1 := f1.w
      obtain ⟨c1, c2, c3, c4⟩ := hc1
      refine mj_iload_n d_Ml_addAtomsOf_6 rfl ?_
      refine mj_aload_n d_Ml_addAtomsOf_7 rfl ?_
      refine mj_get (ci := 8) (j := 2) d_Ml_addAtomsOf_8 rfl w_Ml_37 (by decide) (by omega) (by assumption) rfl ?_
      refine mz_icmp_ge 30 d_Ml_addAtomsOf_11 (by decide) (by omega) (by omega) (fun c_11 => ?_) (fun c_11 => ?_)
      · refine mz_vret d_Ml_addAtomsOf_30 rfl ?_
        have e : i = m := by omega
        subst e
        exact ⟨f1, K', F', hm1, hj⟩
      · omega
    | succ q ih =>
      intro i S1 K' F' hi f1 hm1 hj
      have hc1 : mj_ca S1 c CK CD m hy z := hc.fr f1 (by simp; try omega)
      have hw1 := f1.w
      obtain ⟨c1, c2, c3, c4⟩ := hc1
      have g1 := hm1.1
      obtain ⟨k, hk, ek⟩ := hK i (by omega)
      refine mj_iload_n d_Ml_addAtomsOf_6 rfl ?_
      refine mj_aload_n d_Ml_addAtomsOf_7 rfl ?_
      refine mj_get (ci := 8) (j := 2) d_Ml_addAtomsOf_8 rfl w_Ml_37 (by decide) (by omega) (by assumption) rfl ?_
      refine mz_icmp_ge 30 d_Ml_addAtomsOf_11 (by decide) (by omega) (by omega) (fun c_11 => ?_) (fun c_11 => ?_)
      · omega
      · refine mj_aload_n d_Ml_addAtomsOf_14 rfl ?_
        refine mj_aload_n d_Ml_addAtomsOf_15 rfl ?_
        refine mj_get (ci := 8) (j := 0) d_Ml_addAtomsOf_16 rfl w_Ml_40 (by decide) (by omega) (by assumption) rfl ?_
        refine mj_iload_n d_Ml_addAtomsOf_19 rfl ?_
        refine mz_iald d_Ml_addAtomsOf_20 (by omega) (by assumption) (rfl) (by omega) ?_
        rw [ek]
        refine mz_callV1v (ci := 4) d_Ml_addAtomsOf_21 (m_Ml_addAtom (d := 0) hT (by omega) hm1 (by omega) (by omega)) cw_Ml_addAtom lk_Ml_41 rfl rfl (by omega) (by assumption) (by omega) rfl (fun S_21 h_21 => ?_)
        obtain ⟨f2, hm2⟩ := h_21
        refine mz_inc2 d_Ml_addAtomsOf_24 (rfl) ?_
        refine mj_goto 6 d_Ml_addAtomsOf_27 (by decide) ?_
        refine ih (i + 1) S_21 _ _ (by omega) (f1.tr f2 (by simp) (by simp; try omega)) hm2 (fun j hj2 => ?_)
        by_cases e : j = i
        · subst e
          rw [va_up_self, va_up_self, ek]
          exact ⟨rfl, rfl⟩
        · rw [va_up_ne _ _ e, va_up_ne _ _ e]
          exact hj j (by omega)
  exact loop m 0 S_1 K F (by omega) (f1.tr (mj_fr.rf _ []) (by simp; try omega) (by simp)) hm1 (fun j h => absurd h (Nat.not_lt_zero j))
end ML
