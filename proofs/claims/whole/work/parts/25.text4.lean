/-! the reader of texts: the end, the whole -/
section TR4
variable {Γ : mj_G} {d L : Nat} {S : mj_S} {C : Nat → Int} {t : TS}
theorem m_Tr_faultAtEnd (hw : S.2.1 = 65) (ht : mj_tr S t) (hi : tI L t) (hL : L ≤ 60) (hd : 1 ≤ d) : mj_Met Γ d y_Tr_faultAtEnd M_Tr_faultAtEnd [.ref 5] S 0 0 (mj_I fun z S' => S' = S ∧ z = tEnd t) := by
  obtain ⟨n, K, F, B, RA, RB, BA, br, la, rm, at_⟩ := t
  obtain ⟨h1, h2, ⟨l, rfl, hll⟩, h4, h5, h6, h7, h8, h9, h10⟩ := hi
  obtain ⟨t1, t2, t3, t4, t5⟩ := ht
  have m1 := t2.1
  refine mj_Met.of (by decide) ⟨rfl, rfl⟩ rfl rfl rfl ?_
  refine mj_aload_n d_Tr_faultAtEnd_0 rfl ?_
  refine mj_get (ci := 3) (j := 4) d_Tr_faultAtEnd_1 rfl w_Tr_37 (by decide) (by omega) (by assumption) rfl ?_
  refine mz_if_le 10 d_Tr_faultAtEnd_4 (by decide) (by omega) (fun c_4 => ?_) (fun c_4 => ?_)
  · refine mz_iconst d_Tr_faultAtEnd_10 ?_
    refine mz_ist1 d_Tr_faultAtEnd_11 (rfl) ?_
    have loop : ∀ (q i : Nat), i + q = 10 → 1 ≤ i → (∀ j, 1 ≤ j → j < i → RA j = -1) → mj_Ok Γ d M_Tr_faultAtEnd 0 0 12 [.ref 5, .int (iZ i)] [] S (mj_I fun z S' => S' = S ∧ z = tEnd (n, K, F, B, RA, RB, BA, br, (l : Int), rm, at_)) := by
      intro q
      induction q with
      | zero =>
        intro i hi h1i hj
        have hno : ¬ tOpenRing RA := fun ⟨j, a1, a2, a3⟩ => a3 (hj j a1 (by omega))
        refine mj_iload_n d_Tr_faultAtEnd_12 rfl ?_
        refine mz_bipush d_Tr_faultAtEnd_13 (by decide) ?_
        refine mz_icmp_gt 37 d_Tr_faultAtEnd_15 (by decide) (by omega) (by omega) (fun c_15 => ?_) (fun c_15 => ?_)
        · refine mj_aload_n d_Tr_faultAtEnd_37 rfl ?_
          refine mj_get (ci := 3) (j := 0) d_Tr_faultAtEnd_38 rfl w_Tr_12 (by decide) (by omega) (by assumption) rfl ?_
          refine mz_callV0i (ci := 4) d_Tr_faultAtEnd_41 (m_Ml_isOverbound (d := 0) hw t2 h2 (fun j hj => by have := h8 j hj; omega)) cw_Ml_isOverbound lk_Tr_114 rfl rfl (by omega) (by assumption) (by omega) rfl (fun z_41 S_41 h_41 => ?_)
          obtain ⟨rfl, hz⟩ := h_41
          rcases hz with ⟨rfl, hz⟩ | ⟨rfl, hz⟩
          · refine mz_if_eq 52 d_Tr_faultAtEnd_44 (by decide) (by omega) (fun c_44 => ?_) (fun c_44 => ?_)
            · simp at c_44
            · refine mz_bipush d_Tr_faultAtEnd_47 (by decide) ?_
              refine mj_goto 53 d_Tr_faultAtEnd_49 (by decide) ?_
              refine mz_iret d_Tr_faultAtEnd_53 rfl (rfl) ?_
              refine ⟨rfl, ?_⟩
              unfold tEnd
              simp only []
              rw [if_neg (by omega), if_neg hno, if_pos hz]
          · refine mz_if_eq 52 d_Tr_faultAtEnd_44 (by decide) (by omega) (fun c_44 => ?_) (fun c_44 => ?_)
            · refine mz_iconst d_Tr_faultAtEnd_52 ?_
              refine mz_iret d_Tr_faultAtEnd_53 rfl (rfl) ?_
              refine ⟨rfl, ?_⟩
              unfold tEnd
              simp only []
              rw [if_neg (by omega), if_neg hno, if_neg (fun ⟨j, a1, a2⟩ => by have := hz j a1; omega)]
            · simp at c_44
        · omega
      | succ q ih =>
        intro i hi h1i hj
        have hRr : iR (RA i) := by
          rcases h4 i (by omega) with w | ⟨⟨s, w1, w2⟩, w3⟩
          · rw [w]; decide
          · rw [w1]; omega
        refine mj_iload_n d_Tr_faultAtEnd_12 rfl ?_
        refine mz_bipush d_Tr_faultAtEnd_13 (by decide) ?_
        refine mz_icmp_gt 37 d_Tr_faultAtEnd_15 (by decide) (by omega) (by omega) (fun c_15 => ?_) (fun c_15 => ?_)
        · omega
        · refine mj_aload_n d_Tr_faultAtEnd_18 rfl ?_
          refine mj_get (ci := 3) (j := 1) d_Tr_faultAtEnd_19 rfl w_Tr_18 (by decide) (by omega) (by assumption) rfl ?_
          refine mj_iload_n d_Tr_faultAtEnd_22 rfl ?_
          refine mz_iald d_Tr_faultAtEnd_23 (by omega) (by assumption) (rfl) (by omega) ?_
          refine mz_iconst d_Tr_faultAtEnd_24 ?_
          refine mz_icmp_eq 31 d_Tr_faultAtEnd_25 (by decide) (hRr) (by decide) (fun c_25 => ?_) (fun c_25 => ?_)
          · refine mz_inc1 d_Tr_faultAtEnd_31 (rfl) ?_
            refine mj_goto 12 d_Tr_faultAtEnd_34 (by decide) ?_
            exact ih (i + 1) (by omega) (by omega) (fun j a1 a2 => by
              rcases Nat.lt_or_ge j i with w | w
              · exact hj j a1 w
              · rw [show j = i by omega]; exact c_25)
          · refine mz_bipush d_Tr_faultAtEnd_28 (by decide) ?_
            refine mz_iret d_Tr_faultAtEnd_30 rfl (rfl) ?_
            refine ⟨rfl, ?_⟩
            unfold tEnd
            simp only []
            rw [if_neg (by omega), if_pos ⟨i, h1i, by omega, c_25⟩]
    exact loop 9 1 (by omega) (by omega) (fun j a1 a2 => by omega)
  · refine mz_bipush d_Tr_faultAtEnd_7 (by decide) ?_
    refine mz_iret d_Tr_faultAtEnd_9 rfl (rfl) ?_
    refine ⟨rfl, ?_⟩
    unfold tEnd
    simp only []
    rw [if_pos (by omega)]
def mj_tr0 (n : Nat) (K F B RA RB BA : Nat → Int) (rm : Bool) : TS := (0, K, F, mj_fl B 0 36, mj_fl RA (-1) 10, RB, BA, 0, -1, rm, 0)
theorem tI_atom0 {n : Nat} {K F B RA RB BA : Nat → Int} {rm : Bool} (hz : (tAtom L C 0 (mj_tr0 n K F B RA RB BA rm)).1 = -1) : tI L (tAtom L C 0 (mj_tr0 n K F B RA RB BA rm)).2 := by
  unfold mj_tr0 at hz ⊢
  by_cases q1 : ln_el L C ((0 : Nat) : Int) = -1 ∨ ln_el L C ((0 : Nat) : Int) = 9
  · rw [show tAtom L C 0 (0, K, F, mj_fl B 0 36, mj_fl RA (-1) 10, RB, BA, 0, -1, rm, 0) = (-2, (0, K, F, mj_fl B 0 36, mj_fl RA (-1) 10, RB, BA, 0, -1, rm, 0)) from if_pos q1] at hz
    exact absurd hz (by simp)
  · have re := ln_el_r L C ((0 : Nat) : Int)
    obtain ⟨e, he⟩ : ∃ e : Nat, ln_el L C ((0 : Nat) : Int) = e := ⟨(ln_el L C ((0 : Nat) : Int)).toNat, by omega⟩
    have het : (ln_el L C ((0 : Nat) : Int)).toNat = e := by omega
    have hin := ln_el_in (n := L) (C := C) (a := 0) (by omega)
    rw [het] at hin
    have hA : tAtom L C 0 (0, K, F, mj_fl B 0 36, mj_fl RA (-1) 10, RB, BA, 0, -1, rm, 0) = (-1, (0 + 1, va_up K 0 e, va_up F 0 (mj_VAL e), mj_fl B 0 36, mj_fl RA (-1) 10, RB, BA, 0, ((0 : Nat) : Int), true, 0 + if mj_SND e = 0 then 1 else 2)) := by
      unfold tAtom
      simp only []
      rw [if_neg q1, if_neg (by omega), het, he]
      simp
    rw [hA]
    have hv := mj_VAL_r e
    refine ⟨by decide, by decide, ⟨0, rfl, by decide⟩, fun j hj => Or.inl (by simp [mj_fl, hj]), fun j hj => absurd hj (Nat.not_lt_zero j), by decide, hin.2, fun j hj => ?_, fun j hj => by simp [mj_fl, hj], fun j hj => ?_⟩
    · rw [show j = 0 by omega, va_up_self]
      constructor <;> omega
    · rw [show j = 0 by omega, va_up_self]
      exact ⟨e, rfl, by omega⟩
theorem m_Tr_readFrom {n br at_ : Nat} {K F B RA RB BA : Nat → Int} {la : Int} {rm : Bool} (hT : mj_tab Γ) (hw : S.2.1 = 65) (hl : mj_ln S L C) (ht : mj_tr S (n, K, F, B, RA, RB, BA, br, la, rm, at_)) (hd : 6 ≤ d) : mj_Met Γ d y_Tr_readFrom M_Tr_readFrom [.ref 5, .ref 1] S 0 0
    (mj_I fun z S' => mj_fr S S' [5, 6, 7, 8, 9, 10, 11, 12] ∧ z = (tRead L C (mj_tr0 n K F B RA RB BA rm)).1 ∧ mj_tr S' (tRead L C (mj_tr0 n K F B RA RB BA rm)).2) := by
  have hl3 := hl.2.2.1
  obtain ⟨t1, t2, t3, t4, t5⟩ := ht
  have m1 := t2.1
  refine mj_Met.of (by decide) ⟨rfl, rfl⟩ rfl rfl rfl ?_
  refine mj_aload_n d_Tr_readFrom_0 rfl ?_
  refine mj_get (ci := 3) (j := 0) d_Tr_readFrom_1 rfl w_Tr_12 (by decide) (by omega) (by assumption) rfl ?_
  refine mz_callV0v (ci := 4) d_Tr_readFrom_4 (m_Ml_clear (d := 1) hw t2 (by omega)) cw_Ml_clear lk_Tr_28 rfl rfl (by omega) (by assumption) (by omega) rfl (fun S_4 h_4 => ?_)
  obtain ⟨g1, g2⟩ := h_4
  have w4 := g1.w
  have t1 := g1.at t1 (by simp)
  have t3 := g1.at t3 (by simp)
  refine mj_aload_n d_Tr_readFrom_7 rfl ?_
  refine mj_get (ci := 3) (j := 1) d_Tr_readFrom_8 rfl w_Tr_18 (by decide) (by omega) (by assumption) rfl ?_
  refine mz_iconst d_Tr_readFrom_11 ?_
  refine mz_callS2v d_Tr_readFrom_12 (m_Ar_fill (d := 0) (by omega) t3 (by omega)) cw_Ar_fill lk_Tr_31 (by omega) rfl (fun S_12 h_12 => ?_)
  obtain ⟨g3, g4⟩ := h_12
  have w12 := g3.w
  have t1 := g3.at t1 (by simp)
  refine mj_aload_n d_Tr_readFrom_15 rfl ?_
  refine mz_iconst d_Tr_readFrom_16 ?_
  refine mz_put (ci := 3) (j := 4) d_Tr_readFrom_17 rfl w_Tr_37 (by decide) rfl (by omega) (by assumption) (Nat.le_of_ble_eq_true rfl) (mj_fit_int _) rfl (fun S_17 w_17 e_17 f_17 => ?_)
  refine mj_aload_n d_Tr_readFrom_20 rfl ?_
  refine mz_iconst d_Tr_readFrom_21 ?_
  refine mz_put (ci := 3) (j := 5) d_Tr_readFrom_22 rfl w_Tr_41 (by decide) rfl (by omega) (by assumption) (Nat.le_of_ble_eq_true rfl) (mj_fit_int _) rfl (fun S_22 w_22 e_22 f_22 => ?_)
  refine mj_aload_n d_Tr_readFrom_25 rfl ?_
  refine mz_iconst d_Tr_readFrom_26 ?_
  refine mz_put (ci := 3) (j := 7) d_Tr_readFrom_27 rfl w_Tr_44 (by decide) rfl (by omega) (by assumption) (Nat.le_of_ble_eq_true rfl) (mj_fit_int _) rfl (fun S_27 w_27 e_27 f_27 => ?_)
  have f2 : mj_fr S_12 S_27 [5] := (f_17.tr f_22 (l := [5]) (by simp) (by simp)).tr f_27 (by simp) (by simp)
  have f3 : mj_fr S S_27 [5, 6, 9, 10] := (g1.tr g3 (l := [6, 9, 10]) (by simp) (by simp)).tr f2 (by simp) (by simp)
  have ht2 : mj_tr S_27 (mj_tr0 n K F B RA RB BA rm) := ⟨e_27, (g2.fr g3 (by simp)).fr f2 (by simp), f2.at g4 (by simp), f3.at t4 (by simp), f3.at t5 (by simp)⟩
  have hw2 : S_27.2.1 = 65 := f3.w.trans hw
  have hl2 : mj_ln S_27 L C := hl.fr f3 (by simp) (by simp)
  have f4 : mj_fr S S_27 [5, 6, 7, 8, 9, 10, 11, 12] := f3.tr (mj_fr.rf _ []) (by simp) (by simp)
  refine mj_aload_n d_Tr_readFrom_30 rfl ?_
  refine mj_aload_n d_Tr_readFrom_31 rfl ?_
  refine mz_iconst d_Tr_readFrom_32 ?_
  refine mz_callV2i (ci := 3) d_Tr_readFrom_33 (m_Tr_readAtom (d := 2) hT hw2 hl2 ht2 (by omega) (by omega) (Or.inl rfl) (by omega) (by omega)) cw_Tr_readAtom lk_Tr_47 rfl rfl (by omega) (by assumption) (by omega) rfl (fun z_33 S_33 h_33 => ?_)
  obtain ⟨g5, hz5, g6⟩ := h_33
  have hz5 : z_33 = (tAtom L C 0 (mj_tr0 n K F B RA RB BA rm)).1 := hz5
  have g6 : mj_tr S_33 (tAtom L C 0 (mj_tr0 n K F B RA RB BA rm)).2 := g6
  subst hz5
  have f5 : mj_fr S S_33 [5, 6, 7, 8, 9, 10, 11, 12] := f4.tr g5 (by simp) (by simp)
  have hA0 : -5 ≤ (tAtom L C 0 (mj_tr0 n K F B RA RB BA rm)).1 ∧ (tAtom L C 0 (mj_tr0 n K F B RA RB BA rm)).1 ≤ -1 := by
    unfold mj_tr0 tAtom
    simp only []
    split
    · exact ⟨by simp, by simp⟩
    · split
      · exact ⟨by simp, by simp⟩
      · exact ⟨by simp, by simp⟩
  refine mz_ist2 d_Tr_readFrom_36 (rfl) ?_
  refine mz_iconst d_Tr_readFrom_37 ?_
  refine mz_ist3 d_Tr_readFrom_38 (rfl) ?_
  have stop : ∀ (z : Int) (S1 : mj_S) (x3 : Value), iR z → z ≠ -1 → mj_Ok Γ d M_Tr_readFrom 0 0 73 [.ref 5, .ref 1, .int (iZ z), x3] [] S1 (mj_I fun r S' => S' = S1 ∧ r = z) := by
    intro z S1 x3 hr hz
    refine mj_iload_n d_Tr_readFrom_73 rfl ?_
    refine mz_iconst d_Tr_readFrom_74 ?_
    refine mz_icmp_ne 85 d_Tr_readFrom_75 (by decide) (hr) (by omega) (fun c_75 => ?_) (fun c_75 => ?_)
    · refine mj_iload_n d_Tr_readFrom_85 rfl ?_
      refine mz_iret d_Tr_readFrom_86 rfl (rfl) ?_
      exact ⟨rfl, rfl⟩
    · exact absurd c_75 hz
  have rng : ∀ u : TS, tI L u → -7 ≤ (tPart L C u).1 ∧ (tPart L C u).1 ≤ -1 := by
    intro u hu
    have ra : ∀ (told : Int) (u : TS), -5 ≤ (tAtom L C told u).1 ∧ (tAtom L C told u).1 ≤ -1 := by
      intro told u
      obtain ⟨n, K, F, B, RA, RB, BA, br, la, rm, at_⟩ := u
      unfold tAtom
      simp only []
      split
      · exact ⟨by simp, by simp⟩
      · split
        · exact ⟨by simp, by simp⟩
        · exact ⟨by simp, by simp⟩
    have rr : ∀ (dg : Nat) (told : Int) (u : TS), -7 ≤ (tRing dg told u).1 ∧ (tRing dg told u).1 ≤ -1 := by
      intro dg told u
      obtain ⟨n, K, F, B, RA, RB, BA, br, la, rm, at_⟩ := u
      unfold tRing
      simp only []
      split
      · exact ⟨by simp, by simp⟩
      · split
        · exact ⟨by simp, by simp⟩
        · exact ⟨by simp, by simp⟩
    have rc : ∀ u : TS, -7 ≤ (tClose u).1 ∧ (tClose u).1 ≤ -1 := by
      intro u
      obtain ⟨n, K, F, B, RA, RB, BA, br, la, rm, at_⟩ := u
      unfold tClose
      simp only []
      split
      · exact ⟨by simp, by simp⟩
      · exact ⟨by simp, by simp⟩
    unfold tPart
    split
    · exact rc u
    · split
      · have := ra (tTold L C (tPush u)) (tBond L C (tPush u))
        have e : tOpen L C u = tAtom L C (tTold L C (tPush u)) (tBond L C (tPush u)) := rfl
        rw [e]
        omega
      · split
        · exact rr _ _ _
        · have := ra (tTold L C u) (tBond L C u)
          omega
  have loop : ∀ (m : Nat) (S1 : mj_S) (u : TS), m ≤ 60 → mj_fr S S1 [5, 6, 7, 8, 9, 10, 11, 12] → mj_tr S1 u → tI L u → L ≤ tAt u + m → mj_Ok Γ d M_Tr_readFrom 0 0 39 [.ref 5, .ref 1, .int (iZ (-1)), .int (iZ ((60 - m : Nat) : Int))] [] S1
      (mj_I fun z S' => mj_fr S S' [5, 6, 7, 8, 9, 10, 11, 12] ∧ z = (if (tLoop L C m u).1 = -1 then tEnd (tLoop L C m u).2 else (tLoop L C m u).1) ∧ mj_tr S' (tLoop L C m u).2) := by
    have fin : ∀ (S1 : mj_S) (u : TS) (x3 : Value), mj_fr S S1 [5, 6, 7, 8, 9, 10, 11, 12] → mj_tr S1 u → tI L u → mj_Ok Γ d M_Tr_readFrom 0 0 73 [.ref 5, .ref 1, .int (iZ (-1)), x3] [] S1 (mj_I fun z S' => mj_fr S S' [5, 6, 7, 8, 9, 10, 11, 12] ∧ z = tEnd u ∧ mj_tr S' u) := by
      intro S1 u x3 f1 hu hi
      have hw1 : S1.2.1 = 65 := f1.w.trans hw
      have t1' : S1.1 5 = .inr (3, [.ref 6, .ref 10, .ref 11, .ref 12, .int (iZ (u.2.2.2.2.2.2.2.1 : Nat)), .int (iZ u.2.2.2.2.2.2.2.2.1), .int (iZ (if u.2.2.2.2.2.2.2.2.2.1 then 1 else 0)), .int (iZ (tAt u : Nat))]) := by
        obtain ⟨n, K, F, B, RA, RB, BA, br, la, rm, at_⟩ := u
        exact hu.1
      refine mj_iload_n d_Tr_readFrom_73 rfl ?_
      refine mz_iconst d_Tr_readFrom_74 ?_
      refine mz_icmp_ne 85 d_Tr_readFrom_75 (by decide) (by omega) (by omega) (fun c_75 => ?_) (fun c_75 => ?_)
      · exact absurd rfl c_75
      · refine mj_aload_n d_Tr_readFrom_78 rfl ?_
        refine mz_callV0i (ci := 3) d_Tr_readFrom_79 (m_Tr_faultAtEnd (d := 1) hw1 hu hi hl3 (by omega)) cw_Tr_faultAtEnd lk_Tr_60 rfl rfl (by omega) (by assumption) (by omega) rfl (fun z_79 S_79 h_79 => ?_)
        obtain ⟨rfl, hz⟩ := h_79
        subst hz
        refine mj_goto 86 d_Tr_readFrom_82 (by decide) ?_
        refine mz_iret d_Tr_readFrom_86 rfl (rfl) ?_
        exact ⟨f1, rfl, hu⟩
    intro m
    induction m with
    | zero =>
      intro S1 u hm f1 hu hi hL
      have w := fin S1 u (.int (iZ ((60 - 0 : Nat) : Int))) f1 hu hi
      rw [show tLoop L C 0 u = (-1, u) from rfl, if_pos rfl]
      refine mj_iload_n d_Tr_readFrom_39 rfl ?_
      refine mz_bipush d_Tr_readFrom_40 (by decide) ?_
      refine mz_icmp_ge 73 d_Tr_readFrom_42 (by decide) (by omega) (by omega) (fun c_42 => ?_) (fun c_42 => ?_)
      · exact w
      · omega
    | succ m ih =>
      intro S1 u hm f1 hu hi hL
      have hw1 : S1.2.1 = 65 := f1.w.trans hw
      have hl1 : mj_ln S1 L C := hl.fr f1 (by simp) (by simp)
      have l1' := hl1.1
      have t1' : S1.1 5 = .inr (3, [.ref 6, .ref 10, .ref 11, .ref 12, .int (iZ (u.2.2.2.2.2.2.2.1 : Nat)), .int (iZ u.2.2.2.2.2.2.2.2.1), .int (iZ (if u.2.2.2.2.2.2.2.2.2.1 then 1 else 0)), .int (iZ (tAt u : Nat))]) := by
        obtain ⟨n, K, F, B, RA, RB, BA, br, la, rm, at_⟩ := u
        exact hu.1
      have hatu : tAt u ≤ L := by
        obtain ⟨n, K, F, B, RA, RB, BA, br, la, rm, at_⟩ := u
        exact hi.2.2.2.2.2.2.1
      have hpr := rng u hi
      refine mj_iload_n d_Tr_readFrom_39 rfl ?_
      refine mz_bipush d_Tr_readFrom_40 (by decide) ?_
      refine mz_icmp_ge 73 d_Tr_readFrom_42 (by decide) (by omega) (by omega) (fun c_42 => ?_) (fun c_42 => ?_)
      · omega
      · refine mj_iload_n d_Tr_readFrom_45 rfl ?_
        refine mz_iconst d_Tr_readFrom_46 ?_
        refine mz_icmp_ne 73 d_Tr_readFrom_47 (by decide) (by omega) (by omega) (fun c_47 => ?_) (fun c_47 => ?_)
        · exact absurd rfl c_47
        · refine mj_aload_n d_Tr_readFrom_50 rfl ?_
          refine mj_get (ci := 3) (j := 7) d_Tr_readFrom_51 rfl w_Tr_44 (by decide) (by omega) (by assumption) rfl ?_
          refine mj_aload_n d_Tr_readFrom_54 rfl ?_
          refine mj_get (ci := 1) (j := 1) d_Tr_readFrom_55 rfl w_Tr_51 (by decide) (by omega) (by assumption) rfl ?_
          refine mz_icmp_ge 73 d_Tr_readFrom_58 (by decide) (by omega) (by omega) (fun c_58 => ?_) (fun c_58 => ?_)
          · have w := fin S1 u (.int (iZ ((60 - (m + 1) : Nat) : Int))) f1 hu hi
            rw [show tLoop L C (m + 1) u = (-1, u) by rw [tLoop, if_neg (by omega)], if_pos rfl]
            exact w
          · refine mj_aload_n d_Tr_readFrom_61 rfl ?_
            refine mj_aload_n d_Tr_readFrom_62 rfl ?_
            refine mz_callV1i (ci := 3) d_Tr_readFrom_63 (m_Tr_readPart (d := 4) hT hw1 hl1 hu hi (by omega)) cw_Tr_readPart lk_Tr_56 rfl rfl (by omega) (by assumption) (by omega) rfl (fun z_63 S_63 h_63 => ?_)
            obtain ⟨g7, hz7, g8⟩ := h_63
            subst hz7
            have f6 : mj_fr S S_63 [5, 6, 7, 8, 9, 10, 11, 12] := f1.tr g7 (by simp) (by simp)
            refine mz_ist2 d_Tr_readFrom_66 (rfl) ?_
            refine mz_inc3 d_Tr_readFrom_67 (rfl) ?_
            refine mj_goto 39 d_Tr_readFrom_70 (by decide) ?_
            by_cases hq : (tPart L C u).1 = -1
            · have hpi := tI_part hi hq
              have w := ih S_63 (tPart L C u).2 (by omega) f6 g8 hpi.1 (by omega)
              rw [show (60 - m : Nat) = 60 - (m + 1) + 1 by omega] at w
              rw [show tLoop L C (m + 1) u = tLoop L C m (tPart L C u).2 by rw [tLoop, if_pos (by omega), if_pos hq], hq]
              exact w
            · rw [show tLoop L C (m + 1) u = tPart L C u by rw [tLoop, if_pos (by omega), if_neg hq], if_neg hq]
              have w := stop (tPart L C u).1 S_63 (.int (iZ (((60 - (m + 1) : Nat) : Int) + 1))) (by omega) hq
              refine mj_Ok.post (P := mj_I fun r S' => S' = S_63 ∧ r = (tPart L C u).1) (fun o S' hp => ?_) ?_
              · cases o with
                | inr x => exact hp
                | inl v =>
                  obtain ⟨z, e, rfl, h2⟩ := hp
                  exact ⟨z, e, f6, h2, g8⟩
              · refine mj_iload_n d_Tr_readFrom_39 rfl ?_
                refine mz_bipush d_Tr_readFrom_40 (by decide) ?_
                refine mz_icmp_ge 73 d_Tr_readFrom_42 (by decide) (by omega) (by omega) (fun c_42 => ?_) (fun c_42 => ?_)
                · exact w
                · refine mj_iload_n d_Tr_readFrom_45 rfl ?_
                  refine mz_iconst d_Tr_readFrom_46 ?_
                  refine mz_icmp_ne 73 d_Tr_readFrom_47 (by decide) (by omega) (by omega) (fun c_47 => ?_) (fun c_47 => ?_)
                  · exact w
                  · exact absurd c_47 hq
  by_cases hq : (tAtom L C 0 (mj_tr0 n K F B RA RB BA rm)).1 = -1
  · have hti := tI_atom0 hq
    have w := loop 60 S_33 (tAtom L C 0 (mj_tr0 n K F B RA RB BA rm)).2 (by omega) f5 g6 hti (by omega)
    rw [hq]
    refine mj_Ok.post (fun o S' hp => ?_) w
    cases o with
    | inr x => exact hp
    | inl v =>
      obtain ⟨z, e, h1, h2, h3⟩ := hp
      refine ⟨z, e, h1, ?_⟩
      unfold tRead
      rw [if_pos hq]
      split
      · rename_i q
        rw [if_pos q] at h2
        exact ⟨h2, h3⟩
      · rename_i q
        rw [if_neg q] at h2
        exact ⟨h2, h3⟩
  · have w := stop _ S_33 (.int (iZ 0)) (by omega) hq
    have e1 : tRead L C (mj_tr0 n K F B RA RB BA rm) = tAtom L C 0 (mj_tr0 n K F B RA RB BA rm) := by unfold tRead; rw [if_neg hq]
    rw [e1]
    refine mj_Ok.post (P := mj_I fun r S' => S' = S_33 ∧ r = (tAtom L C 0 (mj_tr0 n K F B RA RB BA rm)).1) (fun o S' hp => ?_) ?_
    · cases o with
      | inr x => exact hp
      | inl v =>
        obtain ⟨z, e, rfl, h2⟩ := hp
        exact ⟨z, e, f5, h2, g6⟩
    · refine mj_iload_n d_Tr_readFrom_39 rfl ?_
      refine mz_bipush d_Tr_readFrom_40 (by decide) ?_
      refine mz_icmp_ge 73 d_Tr_readFrom_42 (by decide) (by omega) (by omega) (fun c_42 => ?_) (fun c_42 => ?_)
      · omega
      · refine mj_iload_n d_Tr_readFrom_45 rfl ?_
        refine mz_iconst d_Tr_readFrom_46 ?_
        refine mz_icmp_ne 73 d_Tr_readFrom_47 (by decide) (by omega) (by omega) (fun c_47 => ?_) (fun c_47 => ?_)
        · exact w
        · exact absurd c_47 hq
end TR4
