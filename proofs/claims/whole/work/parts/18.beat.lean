/-! can a numbering be beaten; the searches' entries -/
def btA (f : Nat → Bool) : Nat → Nat → Bool
  | 0, _ => false
  | r + 1, a => f a || btA f r (a + 1)
def mj_ow (c k : Nat) : Nat := c / 2 ^ mj_sh k % 2 ^ (2 * k)
def btI (A : Nat) (KM B KW : Nat → Nat) (c : Nat) : Nat → Nat → (Nat → Nat) → (Nat → Bool) → Bool
  | 0, _, _, _ => false
  | m + 1, k, ch, tk => btA (fun a => decide (tk a = false ∧ KM a = KW k) && (decide (mj_ow c k < mj_rw B ch a k) || (decide (mj_rw B ch a k = mj_ow c k) && btI A KM B KW c m (k + 1) (va_up ch k a) (va_up tk a true)))) A 0
/-! the lister's own numbering (24: chosen 25, taken 26) -/
def mj_nv (S : mj_S) (A g s : Nat) : Prop := S.1 24 = .inr (6, [.ref 25, .ref 26, .int (iZ A), .int (iZ g), .int (iZ s)])
/-- the molecule and the wanted elements that the search looks at: kinds, bonds, wanted -/
def mj_ny (S : mj_S) (mo wa A : Nat) (KM B KW : Nat → Nat) : Prop := ∃ (n : Nat) (K F Bz W : Nat → Int), mj_ml S mo n K F Bz ∧ S.1 wa = .inl (0, 6, .inl (mj_z W)) ∧ wa < 65 ∧ wa ≠ 24 ∧ wa ≠ 25 ∧ wa ≠ 26 ∧ (mo + 3 < 24 ∨ 26 < mo) ∧ (∀ j, j < A → K j = KM j ∧ KM j < 1000) ∧ (∀ j, j < 36 → Bz j = B j ∧ B j < 4) ∧ (∀ j, j < A → W j = KW j ∧ KW j < 1000)
theorem mj_ny.fr {S S' : mj_S} {mo wa A : Nat} {KM B KW : Nat → Nat} (h : mj_ny S mo wa A KM B KW) (hf : mj_fr S S' [24, 25, 26]) : mj_ny S' mo wa A KM B KW := by
  obtain ⟨n, K, F, Bz, W, h1, h2, h3, h4, h5, h6, h7, h8⟩ := h
  exact ⟨n, K, F, Bz, W, h1.fr hf (by simp; omega), hf.at h2 (by simp; omega), h3, h4, h5, h6, h7, h8⟩
section BE
variable {Γ : mj_G} {d mo wa A g s : Nat} {S : mj_S} {KM B KW ch : Nat → Nat} {CA TA : Nat → Int}
theorem m_Nv_row (hw : S.2.1 = 65) (hn : mj_nv S A g s) (hm : mj_ny S mo wa A KM B KW) (h18 : S.1 25 = .inl (0, 6, .inl (mj_z CA))) {a k : Nat} (ha : a < 6) (hk : k ≤ 5) (hc : ∀ j, j < k → CA j = ch j ∧ ch j < 6) :
    mj_Met Γ d y_Nu_row M_Nu_row [.ref 24, .ref mo, .int (iZ k), .int (iZ a)] S 0 0 (mj_I fun z S' => S' = S ∧ z = (mj_rw B ch a k : Nat)) := by
  obtain ⟨n, K, F, Bz, W, ⟨m1, m2, m3, m4, m5⟩, w1, w2, w3, w4, w5, w6, q1, q2, q3⟩ := hm
  have hn : S.1 24 = .inr (6, [.ref 25, .ref 26, .int (iZ A), .int (iZ g), .int (iZ s)]) := hn
  refine mj_Met.of (by decide) ⟨rfl, rfl⟩ rfl rfl rfl ?_
  refine mz_iconst d_Nu_row_0 ?_
  refine mz_ist4 d_Nu_row_1 (rfl) ?_
  refine mz_iconst d_Nu_row_3 ?_
  refine mz_ist5 d_Nu_row_4 (rfl) ?_
  have loop : ∀ (q i : Nat), i + q = k → mj_Ok Γ d M_Nu_row 0 0 6 [.ref 24, .ref mo, .int (iZ k), .int (iZ a), .int (iZ (mj_rw B ch a i : Nat)), .int (iZ i)] [] S (mj_I fun z S' => S' = S ∧ z = (mj_rw B ch a k : Nat)) := by
    intro q
    induction q with
    | zero =>
      intro i hi
      refine mj_iload d_Nu_row_6 rfl ?_
      refine mj_iload_n d_Nu_row_8 rfl ?_
      refine mz_icmp_ge 42 d_Nu_row_9 (by decide) (by omega) (by omega) (fun c_9 => ?_) (fun c_9 => ?_)
      · refine mj_iload d_Nu_row_42 rfl ?_
        refine mz_iret d_Nu_row_44 rfl (rfl) ?_
        exact ⟨rfl, by rw [show i = k by omega]⟩
      · omega
    | succ q ih =>
      intro i hi
      have r1 := mj_rw_lt (ch := ch) ha (fun j hj => (q2 j hj).2) i (fun j hj => (hc j (by omega)).2)
      have r2 : 4 ^ i ≤ 4 ^ 5 := Nat.pow_le_pow_right (by decide) (by omega)
      have hci := hc i (by omega)
      have hb := q2 (a * 6 + ch i) (by omega)
      refine mj_iload d_Nu_row_6 rfl ?_
      refine mj_iload_n d_Nu_row_8 rfl ?_
      refine mz_icmp_ge 42 d_Nu_row_9 (by decide) (by omega) (by omega) (fun c_9 => ?_) (fun c_9 => ?_)
      · omega
      · refine mj_iload d_Nu_row_12 rfl ?_
        refine mz_iconst d_Nu_row_14 ?_
        refine mz_ishl (s := 2) d_Nu_row_15 (rfl) (rfl) (by omega) (by omega) ?_
        refine mj_aload_n d_Nu_row_16 rfl ?_
        refine mj_get (ci := 4) (j := 2) d_Nu_row_17 rfl w_Nu_59 (by decide) (by omega) (by assumption) rfl ?_
        refine mj_iload_n d_Nu_row_20 rfl ?_
        refine mz_bipush d_Nu_row_21 (by decide) ?_
        refine mz_imul d_Nu_row_23 ?_
        refine mj_aload_n d_Nu_row_24 rfl ?_
        refine mj_get (ci := 6) (j := 0) d_Nu_row_25 rfl w_Nu_9 (by decide) (by omega) (by assumption) rfl ?_
        refine mj_iload d_Nu_row_28 rfl ?_
        refine mz_iald d_Nu_row_30 (by omega) (by assumption) (rfl) (by omega) ?_
        rw [hci.1]
        refine mz_iadd d_Nu_row_31 ?_
        refine mz_iald (j := a * 6 + ch i) d_Nu_row_32 (by omega) (by assumption) (by omega) (by omega) ?_
        rw [hb.1]
        refine mz_ior d_Nu_row_33 (rfl) (rfl) ?_
        rw [show (mj_rw B ch a i * 2 ^ 2 ||| B (a * 6 + ch i)) = mj_rw B ch a (i + 1) from mj_lor4 _ _ hb.2]
        refine mz_ist4 d_Nu_row_34 (rfl) ?_
        refine mz_inc5 d_Nu_row_36 (rfl) ?_
        refine mj_goto 6 d_Nu_row_39 (by decide) ?_
        exact ih (i + 1) (by omega)
  exact loop k 0 (by omega)
theorem m_Nu_canBeBeatenWith {k a c : Nat} {b : Bool} (hw : S.2.1 = 65) (hn : mj_nv S A g s) (h18 : S.1 25 = .inl (0, 6, .inl (mj_z CA))) (h19 : S.1 26 = .inl (2, 6, .inl (mj_z TA))) (hk : k < 6) (ha : a < 6) (hT : TA a = 0) (hd : 1 ≤ d)
    (H : ∀ S2 : mj_S, mj_fr S S2 [25, 26] → S2.1 25 = .inl (0, 6, .inl (mj_z (va_up CA k a))) → S2.1 26 = .inl (2, 6, .inl (mj_z (va_up TA a 1))) → mj_Met Γ (d - 1) y_Nu_canBeBeaten M_Nu_canBeBeaten [.ref 24, .ref mo, .int (iZ ((k + 1 : Nat) : Int)), .int (iZ c)] S2 0 0 (mj_I fun z S' => mj_fr S2 S' [25, 26] ∧ z = (if b then 1 else 0) ∧ S'.1 26 = .inl (2, 6, .inl (mj_z (va_up TA a 1))) ∧ ∃ CA', S'.1 25 = .inl (0, 6, .inl (mj_z CA')) ∧ ∀ j, j < k + 1 → CA' j = va_up CA k a j)) :
    mj_Met Γ d y_Nu_canBeBeatenWith M_Nu_canBeBeatenWith [.ref 24, .ref mo, .int (iZ k), .int (iZ a), .int (iZ c)] S 0 0 (mj_I fun z S' => mj_fr S S' [25, 26] ∧ z = (if b then 1 else 0) ∧ S'.1 26 = .inl (2, 6, .inl (mj_z TA)) ∧ ∃ CA', S'.1 25 = .inl (0, 6, .inl (mj_z CA')) ∧ ∀ j, j < k → CA' j = CA j) := by
  have hn : S.1 24 = .inr (6, [.ref 25, .ref 26, .int (iZ A), .int (iZ g), .int (iZ s)]) := hn
  refine mj_Met.of (by decide) ⟨rfl, rfl⟩ rfl rfl rfl ?_
  refine mj_aload_n d_Nu_canBeBeatenWith_0 rfl ?_
  refine mj_get (ci := 6) (j := 0) d_Nu_canBeBeatenWith_1 rfl w_Nu_9 (by decide) (by omega) (by assumption) rfl ?_
  refine mj_iload_n d_Nu_canBeBeatenWith_4 rfl ?_
  refine mj_iload_n d_Nu_canBeBeatenWith_5 rfl ?_
  refine mz_iast d_Nu_canBeBeatenWith_6 (by omega) (by assumption) (rfl) (by omega) (fun S_6 w_6 e_6 f_6 => ?_)
  have hn := f_6.at hn (by simp; try omega)
  have h19 := f_6.at h19 (by simp; try omega)
  refine mj_aload_n d_Nu_canBeBeatenWith_7 rfl ?_
  refine mj_get (ci := 6) (j := 1) d_Nu_canBeBeatenWith_8 rfl w_Nu_15 (by decide) (by omega) (by assumption) rfl ?_
  refine mj_iload_n d_Nu_canBeBeatenWith_11 rfl ?_
  refine mz_iconst d_Nu_canBeBeatenWith_12 ?_
  refine mz_zast d_Nu_canBeBeatenWith_13 (by omega) (by assumption) (rfl) (by omega) (by decide) (fun S_13 w_13 e_13 f_13 => ?_)
  have hn := f_13.at hn (by simp; try omega)
  have e_6 := f_13.at e_6 (by simp; try omega)
  have f2 : mj_fr S S_13 [25, 26] := f_6.tr f_13 (by simp) (by simp)
  refine mj_aload_n d_Nu_canBeBeatenWith_14 rfl ?_
  refine mj_aload_n d_Nu_canBeBeatenWith_15 rfl ?_
  refine mj_iload_n d_Nu_canBeBeatenWith_16 rfl ?_
  refine mz_iconst d_Nu_canBeBeatenWith_17 ?_
  refine mz_iadd d_Nu_canBeBeatenWith_18 ?_
  refine mj_iload d_Nu_canBeBeatenWith_19 rfl ?_
  refine mz_callV3i (ci := 6) d_Nu_canBeBeatenWith_21 (H S_13 f2 e_6 e_13) cw_Nu_canBeBeaten lk_Nu_36 rfl rfl (by omega) (by assumption) (by omega) rfl (fun z_21 S_21 h_21 => ?_)
  obtain ⟨g1, rfl, g2, CA2, g3, g4⟩ := h_21
  have hw2 := g1.w
  have hn := g1.at hn (by simp; try omega)
  refine mz_ist5 d_Nu_canBeBeatenWith_24 (rfl) ?_
  refine mj_aload_n d_Nu_canBeBeatenWith_26 rfl ?_
  refine mj_get (ci := 6) (j := 1) d_Nu_canBeBeatenWith_27 rfl w_Nu_15 (by decide) (by omega) (by assumption) rfl ?_
  refine mj_iload_n d_Nu_canBeBeatenWith_30 rfl ?_
  refine mz_iconst d_Nu_canBeBeatenWith_31 ?_
  refine mz_zast d_Nu_canBeBeatenWith_32 (by omega) (by assumption) (rfl) (by omega) (by decide) (fun S_32 w_32 e_32 f_32 => ?_)
  have g3 := f_32.at g3 (by simp; try omega)
  rw [mj_up_undo hT] at e_32
  refine mj_iload d_Nu_canBeBeatenWith_33 rfl ?_
  refine mz_iret d_Nu_canBeBeatenWith_35 rfl (mj_narZ b) ?_
  exact ⟨(f2.tr g1 (l := [25, 26]) (by simp) (by simp)).tr f_32 (by simp) (by simp), rfl, e_32, CA2, g3, fun j hj => by rw [g4 j (by omega), va_up_ne _ _ (by omega)]⟩
theorem m_Nu_canBeBeaten {c : Nat} (hcl : c < 2 ^ 30) : ∀ (m k d : Nat) (S : mj_S) (ch : Nat → Nat) (tk : Nat → Bool) (CA TA : Nat → Int), S.2.1 = 65 → mj_nv S A g s → mj_ny S mo wa A KM B KM → S.1 25 = .inl (0, 6, .inl (mj_z CA)) → S.1 26 = .inl (2, 6, .inl (mj_z TA)) → (∀ j, j < 6 → TA j = if tk j then 1 else 0) → A ≤ 6 → k + m = A → (∀ j, j < k → CA j = ch j ∧ ch j < 6) → 2 * m + 1 ≤ d →
    mj_Met Γ d y_Nu_canBeBeaten M_Nu_canBeBeaten [.ref 24, .ref mo, .int (iZ k), .int (iZ c)] S 0 0 (mj_I fun z S' => mj_fr S S' [25, 26] ∧ z = (if btI A KM B KM c m k ch tk then 1 else 0) ∧ S'.1 26 = .inl (2, 6, .inl (mj_z TA)) ∧ ∃ CA', S'.1 25 = .inl (0, 6, .inl (mj_z CA')) ∧ ∀ j, j < k → CA' j = CA j) := by
  intro m
  induction m with
  | zero =>
    intro k d S ch tk CA TA hw hn hm h18 h19 hT hA hk hc hd
    have hn0 : S.1 24 = .inr (6, [.ref 25, .ref 26, .int (iZ A), .int (iZ g), .int (iZ s)]) := hn
    refine mj_Met.of (by decide) ⟨rfl, rfl⟩ rfl rfl rfl ?_
    refine mj_iload_n d_Nu_canBeBeaten_0 rfl ?_
    refine mj_aload_n d_Nu_canBeBeaten_1 rfl ?_
    refine mj_get (ci := 6) (j := 2) d_Nu_canBeBeaten_2 rfl w_Nu_25 (by decide) (by omega) (by assumption) rfl ?_
    refine mz_icmp_lt 10 d_Nu_canBeBeaten_5 (by decide) (by omega) (by omega) (fun c_5 => ?_) (fun c_5 => ?_)
    · omega
    · refine mz_iconst d_Nu_canBeBeaten_8 ?_
      refine mz_iret d_Nu_canBeBeaten_9 rfl (rfl) ?_
      exact ⟨mj_fr.rf _ _, rfl, h19, CA, h18, fun _ _ => rfl⟩
  | succ m ih =>
    intro k d S ch tk CA TA hw hn hm h18 h19 hT hA hk hc hd
    have hn0 : S.1 24 = .inr (6, [.ref 25, .ref 26, .int (iZ A), .int (iZ g), .int (iZ s)]) := hn
    have hsh := mj_sh_r k (by omega)
    have h2k : 2 ^ (2 * k) ≤ 2 ^ 10 := Nat.pow_le_pow_right (by decide) (by omega)
    have h2p := Nat.two_pow_pos (2 * k)
    refine mj_Met.of (by decide) ⟨rfl, rfl⟩ rfl rfl rfl ?_
    refine mj_iload_n d_Nu_canBeBeaten_0 rfl ?_
    refine mj_aload_n d_Nu_canBeBeaten_1 rfl ?_
    refine mj_get (ci := 6) (j := 2) d_Nu_canBeBeaten_2 rfl w_Nu_25 (by decide) (by omega) (by assumption) rfl ?_
    refine mz_icmp_lt 10 d_Nu_canBeBeaten_5 (by decide) (by omega) (by omega) (fun c_5 => ?_) (fun c_5 => ?_)
    · refine mj_iload_n d_Nu_canBeBeaten_10 rfl ?_
      refine mj_iload_n d_Nu_canBeBeaten_11 rfl ?_
      refine mz_callSN1i d_Nu_canBeBeaten_12 (m_IL_rowShift (d := 0) (by omega)) cw_IL_rowShift lk_Nu_44 (by omega) rfl (fun z_12 S_12 h_12 => ?_)
      obtain ⟨rfl, rfl⟩ := h_12
      rw [mj_sh_i k (by omega)]
      have hdv : c / 2 ^ mj_sh k ≤ c := Nat.div_le_self _ _
      obtain ⟨cq, hcq⟩ : ∃ cq : Nat, cq = c / 2 ^ mj_sh k := ⟨_, rfl⟩
      rw [← hcq] at hdv
      refine mz_ishr d_Nu_canBeBeaten_15 (rfl) (rfl) (by omega) (by omega) ?_
      rw [← hcq]
      refine mz_iconst d_Nu_canBeBeaten_16 ?_
      refine mz_iconst d_Nu_canBeBeaten_17 ?_
      refine mj_iload_n d_Nu_canBeBeaten_18 rfl ?_
      refine mz_imul d_Nu_canBeBeaten_19 ?_
      refine mz_ishl (x := 1) (s := 2 * k) d_Nu_canBeBeaten_20 (rfl) (by omega) (by omega) (by omega) ?_
      refine mz_iconst d_Nu_canBeBeaten_21 ?_
      refine mz_isub d_Nu_canBeBeaten_22 ?_
      refine mz_iand (q := 2 * k) d_Nu_canBeBeaten_23 (rfl) (by omega) (by omega) (by omega) ?_
      obtain ⟨ow, how⟩ : ∃ ow : Nat, ow = cq % 2 ^ (2 * k) := ⟨_, rfl⟩
      rw [← how]
      have howe : mj_ow c k = ow := by rw [how, hcq]; rfl
      have howl : ow < 1024 := by rw [how]; have := Nat.mod_lt cq h2p; omega
      refine mz_ist4 d_Nu_canBeBeaten_24 (rfl) ?_
      refine mz_iconst d_Nu_canBeBeaten_26 ?_
      refine mz_ist5 d_Nu_canBeBeaten_27 (rfl) ?_
      have loop : ∀ (r a : Nat) (S1 : mj_S) (CA1 : Nat → Int), a + r = A → mj_fr S_12 S1 [25, 26] → S1.1 26 = .inl (2, 6, .inl (mj_z TA)) → S1.1 25 = .inl (0, 6, .inl (mj_z CA1)) → (∀ j, j < k → CA1 j = CA j) → ∀ x5 : Value, x5.category = 1 →
          mj_Ok Γ d M_Nu_canBeBeaten 0 0 29 [.ref 24, .ref mo, .int (iZ k), .int (iZ c), .int (iZ ow), .int (iZ a), x5] [] S1 (mj_I fun z S' => mj_fr S_12 S' [25, 26] ∧ z = (if btA (fun a => decide (tk a = false ∧ KM a = KM k) && (decide (mj_ow c k < mj_rw B ch a k) || (decide (mj_rw B ch a k = mj_ow c k) && btI A KM B KM c m (k + 1) (va_up ch k a) (va_up tk a true)))) r a then 1 else 0) ∧ S'.1 26 = .inl (2, 6, .inl (mj_z TA)) ∧ ∃ CA', S'.1 25 = .inl (0, 6, .inl (mj_z CA')) ∧ ∀ j, j < k → CA' j = CA j) := by
        intro r
        induction r with
        | zero =>
          intro a S1 CA1 ha f1 h191 h181 hc1 x5 hx5
          have hn1 := f1.at hn0 (by simp)
          have hw1 := f1.w
          refine mj_iload d_Nu_canBeBeaten_29 rfl ?_
          refine mj_aload_n d_Nu_canBeBeaten_31 rfl ?_
          refine mj_get (ci := 6) (j := 2) d_Nu_canBeBeaten_32 rfl w_Nu_25 (by decide) (by omega) (by assumption) rfl ?_
          refine mz_icmp_ge 108 d_Nu_canBeBeaten_35 (by decide) (by omega) (by omega) (fun c_35 => ?_) (fun c_35 => ?_)
          · refine mz_iconst d_Nu_canBeBeaten_108 ?_
            refine mz_iret d_Nu_canBeBeaten_109 rfl (rfl) ?_
            exact ⟨f1, rfl, h191, CA1, h181, hc1⟩
          · omega
        | succ r ih2 =>
          intro a S1 CA1 ha f1 h191 h181 hc1 x5 hx5
          have hn1 := f1.at hn0 (by simp)
          have hn2 : mj_nv S1 A g s := hn1
          have hw1 := f1.w
          have f1' : mj_fr S_12 S1 [24, 25, 26] := f1.tr (mj_fr.rf _ []) (by simp) (by simp)
          have hm1 : mj_ny S1 mo wa A KM B KM := hm.fr f1'
          have hm1' := hm1
          obtain ⟨nn, K, F, Bz, W, ⟨m1, m2, m3, m4, m5⟩, w1, w2, w3, w4, w5, w6, q1, q2, q3⟩ := hm1
          have hTa := hT a (by omega)
          have hKa := q1 a (by omega)
          have hWk := q1 k (by omega)
          refine mj_iload d_Nu_canBeBeaten_29 rfl ?_
          refine mj_aload_n d_Nu_canBeBeaten_31 rfl ?_
          refine mj_get (ci := 6) (j := 2) d_Nu_canBeBeaten_32 rfl w_Nu_25 (by decide) (by omega) (by assumption) rfl ?_
          refine mz_icmp_ge 108 d_Nu_canBeBeaten_35 (by decide) (by omega) (by omega) (fun c_35 => ?_) (fun c_35 => ?_)
          · omega
          · refine mj_aload_n d_Nu_canBeBeaten_38 rfl ?_
            refine mj_get (ci := 6) (j := 1) d_Nu_canBeBeaten_39 rfl w_Nu_15 (by decide) (by omega) (by assumption) rfl ?_
            refine mj_iload d_Nu_canBeBeaten_42 rfl ?_
            refine mz_zald d_Nu_canBeBeaten_44 (by omega) (by assumption) (rfl) (by omega) ?_
            rw [hTa]
            cases ht : tk a with
            | true =>
              refine mz_if_ne 102 d_Nu_canBeBeaten_45 (by decide) (by omega) (fun c_45 => ?_) (fun c_45 => ?_)
              · refine mz_inc5 d_Nu_canBeBeaten_102 (by unfold mj_c1; simp only [List.all_cons, hx5]; rfl) ?_
                refine mj_goto 29 d_Nu_canBeBeaten_105 (by decide) ?_
                have w := ih2 (a + 1) S1 CA1 (by omega) f1 h191 h181 hc1 x5 hx5
                rw [btA, show decide (tk a = false ∧ KM a = KM k) = false by rw [ht]; simp, Bool.false_and, Bool.false_or]
                exact w
              · simp at c_45
            | false =>
              refine mz_if_ne 102 d_Nu_canBeBeaten_45 (by decide) (by omega) (fun c_45 => ?_) (fun c_45 => ?_)
              · simp at c_45
              · refine mj_aload_n d_Nu_canBeBeaten_48 rfl ?_
                refine mj_get (ci := 4) (j := 0) d_Nu_canBeBeaten_49 rfl w_Nu_48 (by decide) (by omega) (by assumption) rfl ?_
                refine mj_iload d_Nu_canBeBeaten_52 rfl ?_
                refine mz_iald d_Nu_canBeBeaten_54 (by omega) (by assumption) (rfl) (by omega) ?_
                rw [hKa.1]
                refine mj_aload_n d_Nu_canBeBeaten_55 rfl ?_
                refine mj_get (ci := 4) (j := 0) d_Nu_canBeBeaten_56 rfl w_Nu_48 (by decide) (by omega) (by assumption) rfl ?_
                refine mj_iload_n d_Nu_canBeBeaten_59 rfl ?_
                refine mz_iald d_Nu_canBeBeaten_60 (by omega) (by assumption) (rfl) (by omega) ?_
                rw [hWk.1]
                refine mz_icmp_ne 102 d_Nu_canBeBeaten_61 (by decide) (by omega) (by omega) (fun c_61 => ?_) (fun c_61 => ?_)
                · refine mz_inc5 d_Nu_canBeBeaten_102 (by unfold mj_c1; simp only [List.all_cons, hx5]; rfl) ?_
                  refine mj_goto 29 d_Nu_canBeBeaten_105 (by decide) ?_
                  have w := ih2 (a + 1) S1 CA1 (by omega) f1 h191 h181 hc1 x5 hx5
                  rw [btA, show decide (tk a = false ∧ KM a = KM k) = false from decide_eq_false (fun z => c_61 (by rw [z.2])), Bool.false_and, Bool.false_or]
                  exact w
                · have hkk : KM a = KM k := by omega
                  have hdt : decide (tk a = false ∧ KM a = KM k) = true := decide_eq_true ⟨ht, hkk⟩
                  have hrl := mj_rw_lt (ch := ch) (a := a) (by omega) (fun j hj => (q2 j hj).2) k (fun j hj => (hc j hj).2)
                  have hr4 : 4 ^ k ≤ 4 ^ 5 := Nat.pow_le_pow_right (by decide) (by omega)
                  refine mj_aload_n d_Nu_canBeBeaten_64 rfl ?_
                  refine mj_aload_n d_Nu_canBeBeaten_65 rfl ?_
                  refine mj_iload_n d_Nu_canBeBeaten_66 rfl ?_
                  refine mj_iload d_Nu_canBeBeaten_67 rfl ?_
                  refine mz_callV3i (ci := 6) d_Nu_canBeBeaten_69 (m_Nv_row (d := 0) (ch := ch) (by omega) hn2 hm1' h181 (by omega) (by omega) (fun j hj => ⟨(hc1 j hj).trans (hc j hj).1, (hc j hj).2⟩)) cw_Nu_row lk_Nu_51 rfl rfl (by omega) (by assumption) (by omega) rfl (fun z_69 S_69 h_69 => ?_)
                  obtain ⟨rfl, rfl⟩ := h_69
                  refine mz_ist6 d_Nu_canBeBeaten_72 (by unfold mj_c1; simp only [List.all_cons, hx5]; rfl) ?_
                  refine mj_iload d_Nu_canBeBeaten_74 rfl ?_
                  refine mj_iload d_Nu_canBeBeaten_76 rfl ?_
                  refine mz_icmp_gt 100 d_Nu_canBeBeaten_78 (by decide) (by omega) (by omega) (fun c_78 => ?_) (fun c_78 => ?_)
                  · refine mz_iconst d_Nu_canBeBeaten_100 ?_
                    refine mz_iret d_Nu_canBeBeaten_101 rfl (rfl) ?_
                    rw [btA, hdt, decide_eq_true (show mj_ow c k < mj_rw B ch a k by omega)]
                    exact ⟨f1, rfl, h191, CA1, h181, hc1⟩
                  · have hlt : decide (mj_ow c k < mj_rw B ch a k) = false := decide_eq_false (by omega)
                    refine mj_iload d_Nu_canBeBeaten_81 rfl ?_
                    refine mj_iload d_Nu_canBeBeaten_83 rfl ?_
                    refine mz_icmp_ne 102 d_Nu_canBeBeaten_85 (by decide) (by omega) (by omega) (fun c_85 => ?_) (fun c_85 => ?_)
                    · refine mz_inc5 d_Nu_canBeBeaten_102 (rfl) ?_
                      refine mj_goto 29 d_Nu_canBeBeaten_105 (by decide) ?_
                      have w := ih2 (a + 1) S_69 CA1 (by omega) f1 h191 h181 hc1 (.int (iZ (mj_rw B ch a k : Nat))) rfl
                      rw [btA, hdt, hlt, decide_eq_false (show ¬ mj_rw B ch a k = mj_ow c k by omega), Bool.false_and, Bool.or_false, Bool.and_false, Bool.false_or]
                      exact w
                    · have heq : decide (mj_rw B ch a k = mj_ow c k) = true := decide_eq_true (by omega)
                      have hTn : ∀ j, j < 6 → va_up TA a 1 j = if va_up tk a true j then 1 else 0 := fun j hj => by
                        by_cases e : j = a
                        · subst e; rw [va_up_self, va_up_self]; rfl
                        · rw [va_up_ne _ _ e, va_up_ne _ _ e]; exact hT j hj
                      have hcn : ∀ j, j < k + 1 → va_up CA1 k (a : Int) j = (va_up ch k a j : Nat) ∧ va_up ch k a j < 6 := fun j hj => by
                        by_cases e : j = k
                        · subst e; rw [va_up_self, va_up_self]; exact ⟨rfl, by omega⟩
                        · rw [va_up_ne _ _ e, va_up_ne _ _ e]; exact ⟨(hc1 j (by omega)).trans (hc j (by omega)).1, (hc j (by omega)).2⟩
                      refine mj_aload_n d_Nu_canBeBeaten_88 rfl ?_
                      refine mj_aload_n d_Nu_canBeBeaten_89 rfl ?_
                      refine mj_iload_n d_Nu_canBeBeaten_90 rfl ?_
                      refine mj_iload d_Nu_canBeBeaten_91 rfl ?_
                      refine mj_iload_n d_Nu_canBeBeaten_93 rfl ?_
                      refine mz_callV4i (ci := 6) d_Nu_canBeBeaten_94 (m_Nu_canBeBeatenWith (d := d - 1) (b := btI A KM B KM c m (k + 1) (va_up ch k a) (va_up tk a true)) (by omega) hn2 h181 h191 (by omega) (by omega) (by rw [hTa, ht]; rfl) (by omega) (fun S2 g1 g2 g3 => ih (k + 1) (d - 1 - 1) S2 (va_up ch k a) (va_up tk a true) (va_up CA1 k a) (va_up TA a 1) (by have := g1.w; omega) (g1.at hn1 (by simp)) (hm1'.fr (g1.tr (mj_fr.rf _ []) (by simp) (by simp))) g2 g3 hTn hA (by omega) hcn (by omega))) cw_Nu_canBeBeatenWith lk_Nu_55 rfl rfl (by omega) (by assumption) (by omega) rfl (fun z_94 S_94 h_94 => ?_)
                      obtain ⟨g1, rfl, g3, CA2, g4, g5⟩ := h_94
                      cases hbt : btI A KM B KM c m (k + 1) (va_up ch k a) (va_up tk a true) with
                      | true =>
                        refine mz_if_eq 102 d_Nu_canBeBeaten_97 (by decide) (by omega) (fun c_97 => ?_) (fun c_97 => ?_)
                        · simp at c_97
                        · refine mz_iconst d_Nu_canBeBeaten_100 ?_
                          refine mz_iret d_Nu_canBeBeaten_101 rfl (rfl) ?_
                          rw [btA, hdt, heq, hbt]
                          refine ⟨f1.tr g1 (by simp) (by simp), ?_, g3, CA2, g4, fun j hj => (g5 j hj).trans (hc1 j hj)⟩
                          simp
                      | false =>
                        refine mz_if_eq 102 d_Nu_canBeBeaten_97 (by decide) (by omega) (fun c_97 => ?_) (fun c_97 => ?_)
                        · refine mz_inc5 d_Nu_canBeBeaten_102 (rfl) ?_
                          refine mj_goto 29 d_Nu_canBeBeaten_105 (by decide) ?_
                          have w := ih2 (a + 1) S_94 CA2 (by omega) (f1.tr g1 (by simp) (by simp)) g3 g4 (fun j hj => (g5 j hj).trans (hc1 j hj)) (.int (iZ (mj_rw B ch a k : Nat))) rfl
                          rw [btA, hdt, hlt, heq, hbt]
                          exact w
                        · simp at c_97
      have w := loop A 0 S_12 CA (by omega) (mj_fr.rf _ _) h19 h18 (fun _ _ => rfl) (.retAddr 0) rfl
      exact w
    · omega
/-- is this the greatest code of the first n atoms -/
theorem m_Nu_isGreatest {o n na c A0 : Nat} {K F Bz : Nat → Int} {KM : Nat → Nat} (hw : S.2.1 = 65) (hn : S.1 24 = .inr (6, [.ref 25, .ref 26, .int (iZ A0), .int (iZ g), .int (iZ s)])) (hml : mj_ml S o na K F Bz) (ho : o + 3 < 24 ∨ 26 < o) (h18 : S.1 25 = .inl (0, 6, .inl (mj_z CA))) (h19 : S.1 26 = .inl (2, 6, .inl (mj_z TA))) (hT : ∀ j, j < 6 → TA j = 0)
    (hK : ∀ j, j < n → K j = KM j ∧ KM j < 1000) (hB : ∀ j, j < 36 → Bz j = B j ∧ B j < 4) (hn6 : n ≤ 6) (hc : c < 2 ^ 30) (hd : 14 ≤ d) :
    mj_Met Γ d y_Nu_isGreatest M_Nu_isGreatest [.ref 24, .ref o, .int (iZ n), .int (iZ c)] S 0 0 (mj_I fun z S' => mj_fr S S' [24, 25, 26] ∧ z = (if btI n KM B KM c n 0 (fun _ => 0) (fun _ => false) then 0 else 1) ∧ mj_nv S' n g s ∧ S'.1 26 = .inl (2, 6, .inl (mj_z TA)) ∧ ∃ CA', S'.1 25 = .inl (0, 6, .inl (mj_z CA'))) := by
  have m1 := hml.1
  have m5 := hml.2.2.2.2
  refine mj_Met.of (by decide) ⟨rfl, rfl⟩ rfl rfl rfl ?_
  refine mj_aload_n d_Nu_isGreatest_0 rfl ?_
  refine mj_iload_n d_Nu_isGreatest_1 rfl ?_
  refine mz_put (ci := 6) (j := 2) d_Nu_isGreatest_2 rfl w_Nu_25 (by decide) rfl (by omega) (by assumption) (Nat.le_of_ble_eq_true rfl) (mj_fit_int _) rfl (fun S_2 w_2 e_2 f_2 => ?_)
  have h18 := f_2.at h18 (by simp; try omega)
  have h19 := f_2.at h19 (by simp; try omega)
  have hml2 : mj_ml S_2 o na K F Bz := hml.fr f_2 (by simp; omega)
  have hx : mj_ny S_2 o (o + 1) n KM B KM := ⟨na, K, F, Bz, K, hml2, hml2.2.1, by omega, by omega, by omega, by omega, ho, hK, hB, hK⟩
  refine mj_aload_n d_Nu_isGreatest_5 rfl ?_
  refine mj_aload_n d_Nu_isGreatest_6 rfl ?_
  refine mz_iconst d_Nu_isGreatest_7 ?_
  refine mj_iload_n d_Nu_isGreatest_8 rfl ?_
  refine mz_callV3i (ci := 6) d_Nu_isGreatest_9 (m_Nu_canBeBeaten hc n 0 13 S_2 (fun _ => 0) (fun _ => false) CA TA (by omega) e_2 hx h18 h19 hT hn6 (by omega) (fun j hj => absurd hj (Nat.not_lt_zero j)) (by omega)) cw_Nu_canBeBeaten lk_Nu_36 rfl rfl (by omega) (by assumption) (by omega) rfl (fun z_9 S_9 h_9 => ?_)
  obtain ⟨g1, rfl, g2, CA2, g3, g4⟩ := h_9
  have e := g1.at e_2 (by simp)
  have f3 : mj_fr S S_9 [24, 25, 26] := f_2.tr g1 (by simp) (by simp)
  cases hb : btI n KM B KM c n 0 (fun _ => 0) (fun _ => false) with
  | true =>
    refine mz_if_ne 19 d_Nu_isGreatest_12 (by decide) (by omega) (fun c_12 => ?_) (fun c_12 => ?_)
    · refine mz_iconst d_Nu_isGreatest_19 ?_
      refine mz_iret d_Nu_isGreatest_20 rfl (rfl) ?_
      exact ⟨f3, rfl, e, g2, CA2, g3⟩
    · simp at c_12
  | false =>
    refine mz_if_ne 19 d_Nu_isGreatest_12 (by decide) (by omega) (fun c_12 => ?_) (fun c_12 => ?_)
    · simp at c_12
    · refine mz_iconst d_Nu_isGreatest_15 ?_
      refine mj_goto 20 d_Nu_isGreatest_16 (by decide) ?_
      refine mz_iret d_Nu_isGreatest_20 rfl (rfl) ?_
      exact ⟨f3, rfl, e, g2, CA2, g3⟩
theorem m_Nu_search {o na wb g1 A0 : Nat} {K F Bz W : Nat → Int} (hw : S.2.1 = 65) (hn : S.1 17 = .inr (6, [.ref 18, .ref 19, .int (iZ A0), .int (iZ g), .int (iZ s)])) (hml : mj_ml S o na K F Bz) (ho : o + 3 < 17 ∨ 19 < o) (hwb : S.1 wb = .inl (0, 6, .inl (mj_z W))) (hwb2 : wb < 65 ∧ wb ≠ 17 ∧ wb ≠ 18 ∧ wb ≠ 19) (h18 : S.1 18 = .inl (0, 6, .inl (mj_z CA))) (h19 : S.1 19 = .inl (2, 6, .inl (mj_z TA))) (hT : ∀ j, j < 6 → TA j = 0)
    (hK : ∀ j, j < na → K j = KM j ∧ KM j < 1000) (hB : ∀ j, j < 36 → Bz j = B j ∧ B j < 4) (hW : ∀ j, j < na → W j = KW j ∧ KW j < 1000) (hn6 : na ≤ 6) (hg : g1 < 2 ^ 30) (hd : 8 ≤ d) :
    mj_Met Γ d y_Nu_search M_Nu_search [.ref 17, .ref o, .ref wb, .int (iZ g1)] S 0 0 (mj_V fun S' => mj_fr S S' [17, 18, 19] ∧ mj_nu S' na (chI na KM B KW na 0 0 (fun _ => 0) (fun _ => false) (g1, 0)).1 (chI na KM B KW na 0 0 (fun _ => 0) (fun _ => false) (g1, 0)).2 ∧ (chI na KM B KW na 0 0 (fun _ => 0) (fun _ => false) (g1, 0)).1 < 2 ^ 30 ∧ S'.1 19 = .inl (2, 6, .inl (mj_z TA)) ∧ ∃ CA', S'.1 18 = .inl (0, 6, .inl (mj_z CA'))) := by
  have m1 := hml.1
  have m5 := hml.2.2.2.2
  refine mj_Met.of (by decide) ⟨rfl, rfl⟩ rfl rfl rfl ?_
  refine mj_aload_n d_Nu_search_0 rfl ?_
  refine mj_aload_n d_Nu_search_1 rfl ?_
  refine mj_get (ci := 4) (j := 3) d_Nu_search_2 rfl w_Nu_19 (by decide) (by omega) (by assumption) rfl ?_
  refine mz_put (ci := 6) (j := 2) d_Nu_search_5 rfl w_Nu_25 (by decide) rfl (by omega) (by assumption) (Nat.le_of_ble_eq_true rfl) (mj_fit_int _) rfl (fun S_5 w_5 e_5 f_5 => ?_)
  refine mj_aload_n d_Nu_search_8 rfl ?_
  refine mj_iload_n d_Nu_search_9 rfl ?_
  refine mz_put (ci := 6) (j := 3) d_Nu_search_10 rfl w_Nu_26 (by decide) rfl (by omega) (by assumption) (Nat.le_of_ble_eq_true rfl) (mj_fit_int _) rfl (fun S_10 w_10 e_10 f_10 => ?_)
  refine mj_aload_n d_Nu_search_13 rfl ?_
  refine mz_iconst d_Nu_search_14 ?_
  refine mz_put (ci := 6) (j := 4) d_Nu_search_15 rfl w_Nu_29 (by decide) rfl (by omega) (by assumption) (Nat.le_of_ble_eq_true rfl) (mj_fit_int _) rfl (fun S_15 w_15 e_15 f_15 => ?_)
  have f2 : mj_fr S S_15 [17] := (f_5.tr f_10 (l := [17]) (by simp) (by simp)).tr f_15 (by simp) (by simp)
  have h18 := f2.at h18 (by simp; try omega)
  have h19 := f2.at h19 (by simp; try omega)
  have hwb := f2.at hwb (by simp; try omega)
  have hml2 : mj_ml S_15 o na K F Bz := hml.fr f2 (by simp; omega)
  have hx : mj_nx S_15 o wb na KM B KW := ⟨na, K, F, Bz, W, hml2, hwb, by omega, by omega, by omega, by omega, ho, hK, hB, hW⟩
  refine mj_aload_n d_Nu_search_18 rfl ?_
  refine mj_aload_n d_Nu_search_19 rfl ?_
  refine mj_aload_n d_Nu_search_20 rfl ?_
  refine mz_iconst d_Nu_search_21 ?_
  refine mz_iconst d_Nu_search_22 ?_
  refine mz_callV4v (ci := 6) d_Nu_search_23 (m_Nu_choose na 0 0 g1 0 7 S_15 (fun _ => 0) (fun _ => false) CA TA (by omega) e_15 hx h18 h19 hT hn6 (by omega) (fun j hj => absurd hj (Nat.not_lt_zero j)) (by decide) hg (by omega)) cw_Nu_choose lk_Nu_32 rfl rfl (by omega) (by assumption) (by omega) rfl (fun S_23 h_23 => ?_)
  obtain ⟨q1, q2, q3, q4, CA2, q5, q6⟩ := h_23
  refine mz_vret d_Nu_search_26 rfl ?_
  exact ⟨f2.tr q1 (by simp) (by simp), q2, q3, q4, CA2, q5⟩
end BE
