/-! the reader of texts: branches, parts, the end, the whole -/
def tPart (L : Nat) (C : Nat → Int) (t : TS) : Int × TS :=
  if ln_at L C (tAt t) = 41 then tClose t else if ln_at L C (tAt t) = 40 then tOpen L C t else
  if t.2.2.2.2.2.2.2.2.2.1 = true ∧ 49 ≤ ln_at L C (tAt (tBond L C t)) ∧ ln_at L C (tAt (tBond L C t)) ≤ 57 then tRing (ln_at L C (tAt (tBond L C t)) - 48).toNat (tTold L C t) (tBond L C t) else tAtom L C (tTold L C t) (tBond L C t)
theorem tTold_r (L : Nat) (C : Nat → Int) (t : TS) : 0 ≤ tTold L C t ∧ tTold L C t ≤ 3 := by
  obtain ⟨n, K, F, B, RA, RB, BA, br, la, rm, at_⟩ := t
  exact tbd_r _
theorem tAt_lt {L : Nat} {C : Nat → Int} {a : Nat} (h : ln_at L C a ≠ 32) : a < L := by
  by_cases z : a < L
  · exact z
  · exact absurd (show ln_at L C a = 32 by unfold ln_at; rw [if_neg (by omega)]) h
theorem tI_open {L : Nat} {C : Nat → Int} {t : TS} (h : tI L t) (ha : tAt t < L) (hz : (tOpen L C t).1 = -1) : tI L (tOpen L C t).2 ∧ tAt t < tAt (tOpen L C t).2 := by
  have h1 := tI_push h ha
  have h2 := tI_bond (C := C) h1.1
  have h3 := tI_atom h2.1 (tTold_r L C (tPush t)) hz
  refine ⟨h3.1, ?_⟩
  have h4 : tAt (tBond L C (tPush t)) < tAt (tOpen L C t).2 := h3.2
  omega
theorem tI_part {L : Nat} {C : Nat → Int} {t : TS} (h : tI L t) (hz : (tPart L C t).1 = -1) : tI L (tPart L C t).2 ∧ tAt t < tAt (tPart L C t).2 := by
  have hb := tI_bond (C := C) h
  unfold tPart at hz ⊢
  split
  · rename_i q
    rw [if_pos q] at hz
    exact tI_close h (tAt_lt (C := C) (by rw [q]; decide)) hz
  · rename_i q
    rw [if_neg q] at hz
    split
    · rename_i q2
      rw [if_pos q2] at hz
      exact tI_open h (tAt_lt (C := C) (by rw [q2]; decide)) hz
    · rename_i q2
      rw [if_neg q2] at hz
      split
      · rename_i q3
        rw [if_pos q3] at hz
        have w := tI_ring hb.1 (tTold_r L C t) (by omega) (tAt_lt (C := C) (by omega)) hz
        exact ⟨w.1, by omega⟩
      · rename_i q3
        rw [if_neg q3] at hz
        have w := tI_atom hb.1 (tTold_r L C t) hz
        exact ⟨w.1, by omega⟩
def tLoop (L : Nat) (C : Nat → Int) : Nat → TS → Int × TS
  | 0, t => (-1, t)
  | m + 1, t => if tAt t < L then (if (tPart L C t).1 = -1 then tLoop L C m (tPart L C t).2 else tPart L C t) else (-1, t)
def tOpenRing (RA : Nat → Int) : Prop := ∃ j, 1 ≤ j ∧ j ≤ 9 ∧ RA j ≠ -1
noncomputable def tEnd (t : TS) : Int := match t with
  | (n, _, F, _, RA, _, _, br, _, _, _) => if 0 < br then -2 else @ite _ (tOpenRing RA) (Classical.propDecidable _) (-7) (@ite _ (∃ j, j < n ∧ F j < 0) (Classical.propDecidable _) (-8) (-1))
/-- a line read as a text: what is wrong (-1: nothing), and the state then -/
noncomputable def tRead (L : Nat) (C : Nat → Int) (t0 : TS) : Int × TS :=
  if (tAtom L C 0 t0).1 = -1 then (if (tLoop L C 60 (tAtom L C 0 t0).2).1 = -1 then (tEnd (tLoop L C 60 (tAtom L C 0 t0).2).2, (tLoop L C 60 (tAtom L C 0 t0).2).2) else tLoop L C 60 (tAtom L C 0 t0).2) else tAtom L C 0 t0
section TR3
variable {Γ : mj_G} {d L : Nat} {S : mj_S} {C : Nat → Int} {t : TS}
theorem m_Tr_openBranch (hT : mj_tab Γ) (hw : S.2.1 = 65) (hl : mj_ln S L C) (ht : mj_tr S t) (hi : tI L t) (ha : tAt t < L) (hd : 3 ≤ d) : mj_Met Γ d y_Tr_openBranch M_Tr_openBranch [.ref 5, .ref 1] S 0 0 (mj_I fun z S' => mj_fr S S' [5, 6, 7, 8, 9, 10, 11, 12] ∧ z = (tOpen L C t).1 ∧ mj_tr S' (tOpen L C t).2) := by
  have hi0 := hi
  have hl3 := hl.2.2.1
  have hpu := tI_push hi ha
  have hbo := tI_bond (C := C) hpu.1
  have hto := tTold_r L C (tPush t)
  obtain ⟨n, K, F, B, RA, RB, BA, br, la, rm, at_⟩ := t
  obtain ⟨h1, h2, ⟨l, rfl, hll⟩, h4, h5, h6, h7, h8, h9, h10⟩ := hi
  have ha : at_ < L := ha
  obtain ⟨t1, t2, t3, t4, t5⟩ := ht
  refine mj_Met.of (by decide) ⟨rfl, rfl⟩ rfl rfl rfl ?_
  have tail : ∀ (S1 : mj_S) (x2 : Value), mj_fr S S1 [5, 12] → mj_tr S1 (tPush (n, K, F, B, RA, RB, BA, br, (l : Int), rm, at_)) → x2.category = 1 → mj_Ok Γ d M_Tr_openBranch 0 0 42 [.ref 5, .ref 1, x2] [] S1 (mj_I fun z S' => mj_fr S S' [5, 6, 7, 8, 9, 10, 11, 12] ∧ z = (tOpen L C (n, K, F, B, RA, RB, BA, br, (l : Int), rm, at_)).1 ∧ mj_tr S' (tOpen L C (n, K, F, B, RA, RB, BA, br, (l : Int), rm, at_)).2) := by
    intro S1 x2 f1 ht1 hx2
    have hw1 : S1.2.1 = 65 := f1.w.trans hw
    have hl1 : mj_ln S1 L C := hl.fr f1 (by simp) (by simp)
    have t1' := ht1.1
    refine mj_aload_n d_Tr_openBranch_42 rfl ?_
    refine mj_aload_n d_Tr_openBranch_43 rfl ?_
    refine mz_callV1i (ci := 3) d_Tr_openBranch_44 (m_Tr_readBond (d := 1) hw1 hl1 ht1 (by omega) (by omega)) cw_Tr_readBond lk_Tr_73 rfl rfl (by omega) (by assumption) (by omega) rfl (fun z_44 S_44 h_44 => ?_)
    obtain ⟨g1, hz, g2⟩ := h_44
    subst hz
    refine mz_ist2 d_Tr_openBranch_47 (by unfold mj_c1; simp only [List.all_cons, hx2]; rfl) ?_
    have hw2 : S_44.2.1 = 65 := g1.w.trans hw1
    have hl2 : mj_ln S_44 L C := hl1.fr g1 (by simp) (by simp)
    have t1'' := g2.1
    refine mj_aload_n d_Tr_openBranch_48 rfl ?_
    refine mj_aload_n d_Tr_openBranch_49 rfl ?_
    refine mj_iload_n d_Tr_openBranch_50 rfl ?_
    refine mz_callV2i (ci := 3) d_Tr_openBranch_51 (m_Tr_readAtom (d := 2) hT hw2 hl2 g2 (by have := hbo.1.2.2.2.2.2.2.1; omega) h2 (Or.inr ⟨l, rfl, hll⟩) hto (by omega)) cw_Tr_readAtom lk_Tr_47 rfl rfl (by omega) (by assumption) (by omega) rfl (fun z_51 S_51 h_51 => ?_)
    obtain ⟨g3, hz3, g4⟩ := h_51
    subst hz3
    refine mz_iret d_Tr_openBranch_54 rfl (rfl) ?_
    exact ⟨(f1.tr g1 (l := [5, 12]) (by simp) (by simp)).tr g3 (by simp) (by simp), rfl, g4⟩
  refine mj_aload_n d_Tr_openBranch_0 rfl ?_
  refine mj_get (ci := 3) (j := 4) d_Tr_openBranch_1 rfl w_Tr_37 (by decide) (by omega) (by assumption) rfl ?_
  refine mz_bipush d_Tr_openBranch_4 (by decide) ?_
  refine mz_icmp_ge 32 d_Tr_openBranch_6 (by decide) (by omega) (by omega) (fun c_6 => ?_) (fun c_6 => ?_)
  · refine mj_aload_n d_Tr_openBranch_32 rfl ?_
    refine mj_dup d_Tr_openBranch_33 rfl ?_
    refine mj_get (ci := 3) (j := 7) d_Tr_openBranch_34 rfl w_Tr_44 (by decide) (by omega) (by assumption) rfl ?_
    refine mz_iconst d_Tr_openBranch_37 ?_
    refine mz_iadd d_Tr_openBranch_38 ?_
    refine mz_put (ci := 3) (j := 7) d_Tr_openBranch_39 rfl w_Tr_44 (by decide) rfl (by omega) (by assumption) (Nat.le_of_ble_eq_true rfl) (mj_fit_int _) rfl (fun S_39 w_39 e_39 f_39 => ?_)
    refine tail S_39 _ (f_39.tr (mj_fr.rf _ []) (by simp) (by simp)) ?_ rfl
    have e : tPush (n, K, F, B, RA, RB, BA, br, (l : Int), rm, at_) = (n, K, F, B, RA, RB, BA, br, (l : Int), rm, at_ + 1) := by
      unfold tPush
      simp only []
      rw [if_neg (by omega), if_neg (by omega)]
    rw [e]
    exact ⟨e_39, t2.fr f_39 (by simp), f_39.at t3 (by simp), f_39.at t4 (by simp), f_39.at t5 (by simp)⟩
  · refine mj_aload_n d_Tr_openBranch_9 rfl ?_
    refine mj_get (ci := 3) (j := 3) d_Tr_openBranch_10 rfl w_Tr_25 (by decide) (by omega) (by assumption) rfl ?_
    refine mj_aload_n d_Tr_openBranch_13 rfl ?_
    refine mj_get (ci := 3) (j := 4) d_Tr_openBranch_14 rfl w_Tr_37 (by decide) (by omega) (by assumption) rfl ?_
    refine mj_aload_n d_Tr_openBranch_17 rfl ?_
    refine mj_get (ci := 3) (j := 5) d_Tr_openBranch_18 rfl w_Tr_41 (by decide) (by omega) (by assumption) rfl ?_
    refine mz_iast d_Tr_openBranch_21 (by omega) (by assumption) (rfl) (by omega) (fun S_21 w_21 e_21 f_21 => ?_)
    have t1 := f_21.at t1 (by simp; try omega)
    refine mj_aload_n d_Tr_openBranch_22 rfl ?_
    refine mj_dup d_Tr_openBranch_23 rfl ?_
    refine mj_get (ci := 3) (j := 4) d_Tr_openBranch_24 rfl w_Tr_37 (by decide) (by omega) (by assumption) rfl ?_
    refine mz_iconst d_Tr_openBranch_27 ?_
    refine mz_iadd d_Tr_openBranch_28 ?_
    refine mz_put (ci := 3) (j := 4) d_Tr_openBranch_29 rfl w_Tr_37 (by decide) rfl (by omega) (by assumption) (Nat.le_of_ble_eq_true rfl) (mj_fit_int _) rfl (fun S_29 w_29 e_29 f_29 => ?_)
    refine mj_aload_n d_Tr_openBranch_32 rfl ?_
    refine mj_dup d_Tr_openBranch_33 rfl ?_
    refine mj_get (ci := 3) (j := 7) d_Tr_openBranch_34 rfl w_Tr_44 (by decide) (by omega) (by assumption) rfl ?_
    refine mz_iconst d_Tr_openBranch_37 ?_
    refine mz_iadd d_Tr_openBranch_38 ?_
    refine mz_put (ci := 3) (j := 7) d_Tr_openBranch_39 rfl w_Tr_44 (by decide) rfl (by omega) (by assumption) (Nat.le_of_ble_eq_true rfl) (mj_fit_int _) rfl (fun S_39 w_39 e_39 f_39 => ?_)
    have f2 : mj_fr S_21 S_39 [5] := f_29.tr f_39 (by simp) (by simp)
    have f3 : mj_fr S S_39 [5, 12] := f_21.tr f2 (by simp) (by simp)
    refine tail S_39 _ f3 ?_ rfl
    have e : tPush (n, K, F, B, RA, RB, BA, br, (l : Int), rm, at_) = (n, K, F, B, RA, RB, va_up BA br (l : Int), br + 1, (l : Int), rm, at_ + 1) := by
      unfold tPush
      simp only []
      rw [if_pos (by omega), if_pos (by omega)]
    rw [e]
    exact ⟨e_39, t2.fr f3 (by simp), f3.at t3 (by simp), f3.at t4 (by simp), f2.at e_21 (by simp)⟩
theorem m_Tr_readPart (hT : mj_tab Γ) (hw : S.2.1 = 65) (hl : mj_ln S L C) (ht : mj_tr S t) (hi : tI L t) (hd : 4 ≤ d) : mj_Met Γ d y_Tr_readPart M_Tr_readPart [.ref 5, .ref 1] S 0 0 (mj_I fun z S' => mj_fr S S' [5, 6, 7, 8, 9, 10, 11, 12] ∧ z = (tPart L C t).1 ∧ mj_tr S' (tPart L C t).2) := by
  have hi0 := hi
  have ht0 := ht
  have hl3 := hl.2.2.1
  have l1 := hl.1
  have hbo := tI_bond (C := C) hi
  have hto := tTold_r L C t
  have hatL : tAt t ≤ L := by
    obtain ⟨n, K, F, B, RA, RB, BA, br, la, rm, at_⟩ := t
    exact hi.2.2.2.2.2.2.1
  have r1 := ln_at_r hl.2.2.2 (n := L) (tAt t)
  have r2 := ln_at_r hl.2.2.2 (n := L) (tAt (tBond L C t))
  refine mj_Met.of (by decide) ⟨rfl, rfl⟩ rfl rfl rfl ?_
  have t1 : S.1 5 = .inr (3, [.ref 6, .ref 10, .ref 11, .ref 12, .int (iZ (t.2.2.2.2.2.2.2.1 : Nat)), .int (iZ t.2.2.2.2.2.2.2.2.1), .int (iZ (if t.2.2.2.2.2.2.2.2.2.1 then 1 else 0)), .int (iZ (tAt t : Nat))]) := by
    obtain ⟨n, K, F, B, RA, RB, BA, br, la, rm, at_⟩ := t
    exact ht.1
  refine mj_aload_n d_Tr_readPart_0 rfl ?_
  refine mj_aload_n d_Tr_readPart_1 rfl ?_
  refine mj_get (ci := 3) (j := 7) d_Tr_readPart_2 rfl w_Tr_44 (by decide) (by omega) (by assumption) rfl ?_
  refine mz_callV1i (ci := 1) d_Tr_readPart_5 (m_Ln_at (d := 0) hw hl (by omega)) cw_Ln_at lk_Tr_64 rfl rfl (by omega) (by assumption) (by omega) rfl (fun z_5 S_5 h_5 => ?_)
  obtain ⟨rfl, rfl⟩ := h_5
  refine mz_ist2 d_Tr_readPart_8 (rfl) ?_
  refine mj_iload_n d_Tr_readPart_9 rfl ?_
  refine mz_bipush d_Tr_readPart_10 (by decide) ?_
  refine mz_icmp_ne 20 d_Tr_readPart_12 (by decide) (by omega) (by omega) (fun c_12 => ?_) (fun c_12 => ?_)
  · refine mj_iload_n d_Tr_readPart_20 rfl ?_
    refine mz_bipush d_Tr_readPart_21 (by decide) ?_
    refine mz_icmp_ne 32 d_Tr_readPart_23 (by decide) (by omega) (by omega) (fun c_23 => ?_) (fun c_23 => ?_)
    · have hbr : tPart L C t = if t.2.2.2.2.2.2.2.2.2.1 = true ∧ 49 ≤ ln_at L C (tAt (tBond L C t)) ∧ ln_at L C (tAt (tBond L C t)) ≤ 57 then tRing (ln_at L C (tAt (tBond L C t)) - 48).toNat (tTold L C t) (tBond L C t) else tAtom L C (tTold L C t) (tBond L C t) := by
        unfold tPart
        rw [if_neg c_12, if_neg c_23]
      have hM : mj_Met Γ 1 y_Tr_readBond M_Tr_readBond [.ref 5, .ref 1] S_5 0 0 (mj_I fun z S' => mj_fr S_5 S' [5] ∧ z = tTold L C t ∧ mj_tr S' (tBond L C t)) := by
        obtain ⟨n, K, F, B, RA, RB, BA, br, la, rm, at_⟩ := t
        exact m_Tr_readBond (d := 1) hw hl ht0 (by have : at_ ≤ L := hatL; omega) (by omega)
      refine mj_aload_n d_Tr_readPart_32 rfl ?_
      refine mj_aload_n d_Tr_readPart_33 rfl ?_
      refine mz_callV1i (ci := 3) d_Tr_readPart_34 (hM) cw_Tr_readBond lk_Tr_73 rfl rfl (by omega) (by assumption) (by omega) rfl (fun z_34 S_34 h_34 => ?_)
      obtain ⟨g1, hz, g2⟩ := h_34
      subst hz
      have hw2 : S_34.2.1 = 65 := g1.w.trans hw
      have hl2 : mj_ln S_34 L C := hl.fr g1 (by simp) (by simp)
      have l1' := hl2.1
      have hatB : tAt (tBond L C t) ≤ L := by
        have q := hbo.1
        revert q
        generalize tBond L C t = u
        intro q
        obtain ⟨n, K, F, B, RA, RB, BA, br, la, rm, at_⟩ := u
        exact q.2.2.2.2.2.2.1
      have erm : (tBond L C t).2.2.2.2.2.2.2.2.2.1 = t.2.2.2.2.2.2.2.2.2.1 := by
        obtain ⟨n, K, F, B, RA, RB, BA, br, la, rm, at_⟩ := t
        rfl
      have t1' : S_34.1 5 = .inr (3, [.ref 6, .ref 10, .ref 11, .ref 12, .int (iZ ((tBond L C t).2.2.2.2.2.2.2.1 : Nat)), .int (iZ (tBond L C t).2.2.2.2.2.2.2.2.1), .int (iZ (if t.2.2.2.2.2.2.2.2.2.1 then 1 else 0)), .int (iZ (tAt (tBond L C t) : Nat))]) := by
        rw [← erm]
        revert g2
        generalize tBond L C t = u
        intro g2
        obtain ⟨n, K, F, B, RA, RB, BA, br, la, rm, at_⟩ := u
        exact g2.1
      refine mz_ist3 d_Tr_readPart_37 (rfl) ?_
      refine mj_aload_n d_Tr_readPart_38 rfl ?_
      refine mj_aload_n d_Tr_readPart_39 rfl ?_
      refine mj_get (ci := 3) (j := 7) d_Tr_readPart_40 rfl w_Tr_44 (by decide) (by omega) (by assumption) rfl ?_
      refine mz_callV1i (ci := 1) d_Tr_readPart_43 (m_Ln_at (d := 0) hw2 hl2 (by omega)) cw_Ln_at lk_Tr_64 rfl rfl (by omega) (by assumption) (by omega) rfl (fun z_43 S_43 h_43 => ?_)
      obtain ⟨rfl, rfl⟩ := h_43
      have atom : ¬ (t.2.2.2.2.2.2.2.2.2.1 = true ∧ 49 ≤ ln_at L C (tAt (tBond L C t)) ∧ ln_at L C (tAt (tBond L C t)) ≤ 57) → mj_Ok Γ d M_Tr_readPart 0 0 81 [.ref 5, .ref 1, .int (iZ (ln_at L C (tAt t))), .int (iZ (tTold L C t)), .int (iZ (ln_at L C (tAt (tBond L C t))))] [] S_43 (mj_I fun z S' => mj_fr S_5 S' [5, 6, 7, 8, 9, 10, 11, 12] ∧ z = (tPart L C t).1 ∧ mj_tr S' (tPart L C t).2) := by
        intro hno
        rw [hbr, if_neg hno]
        have hM2 : mj_Met Γ 2 y_Tr_readAtom M_Tr_readAtom [.ref 5, .ref 1, .int (iZ (tTold L C t))] S_43 0 0 (mj_I fun z S' => mj_fr S_43 S' [5, 6, 7, 8, 9] ∧ z = (tAtom L C (tTold L C t) (tBond L C t)).1 ∧ mj_tr S' (tAtom L C (tTold L C t) (tBond L C t)).2) := by
          have q := hbo.1
          revert q g2 hatB
          generalize tBond L C t = u
          intro hatB g2 q
          obtain ⟨n, K, F, B, RA, RB, BA, br, la, rm, at_⟩ := u
          exact m_Tr_readAtom (d := 2) hT hw2 hl2 g2 (by have : at_ ≤ L := hatB; omega) q.2.1 (Or.inr q.2.2.1) hto (by omega)
        refine mj_aload_n d_Tr_readPart_81 rfl ?_
        refine mj_aload_n d_Tr_readPart_82 rfl ?_
        refine mj_iload_n d_Tr_readPart_83 rfl ?_
        refine mz_callV2i (ci := 3) d_Tr_readPart_84 (hM2) cw_Tr_readAtom lk_Tr_47 rfl rfl (by omega) (by assumption) (by omega) rfl (fun z_84 S_84 h_84 => ?_)
        obtain ⟨g3, hz3, g4⟩ := h_84
        subst hz3
        refine mz_iret d_Tr_readPart_87 rfl (rfl) ?_
        exact ⟨g1.tr g3 (by simp) (by simp), rfl, g4⟩
      refine mz_ist4 d_Tr_readPart_46 (rfl) ?_
      refine mj_aload_n d_Tr_readPart_48 rfl ?_
      refine mj_get (ci := 3) (j := 6) d_Tr_readPart_49 rfl w_Tr_76 (by decide) (by omega) (by assumption) rfl ?_
      cases hrm : t.2.2.2.2.2.2.2.2.2.1 with
      | false =>
        refine mz_if_eq 81 d_Tr_readPart_52 (by decide) (by omega) (fun c_52 => ?_) (fun c_52 => ?_)
        · exact atom (by rw [hrm]; simp)
        · simp at c_52
      | true =>
        refine mz_if_eq 81 d_Tr_readPart_52 (by decide) (by omega) (fun c_52 => ?_) (fun c_52 => ?_)
        · simp at c_52
        · refine mj_iload d_Tr_readPart_55 rfl ?_
          refine mz_callSN1i d_Tr_readPart_57 (m_IL_isDigit (d := 0) (by omega)) cw_IL_isDigit lk_Tr_80 (by omega) rfl (fun z_57 S_57 h_57 => ?_)
          obtain ⟨rfl, rfl⟩ := h_57
          by_cases q : 48 ≤ ln_at L C (tAt (tBond L C t)) ∧ ln_at L C (tAt (tBond L C t)) ≤ 57
          · rw [if_pos q]
            refine mz_if_eq 81 d_Tr_readPart_60 (by decide) (by omega) (fun c_60 => ?_) (fun c_60 => ?_)
            · omega
            · refine mj_iload d_Tr_readPart_63 rfl ?_
              refine mz_bipush d_Tr_readPart_65 (by decide) ?_
              refine mz_icmp_eq 81 d_Tr_readPart_67 (by decide) (by omega) (by omega) (fun c_67 => ?_) (fun c_67 => ?_)
              · exact atom (by omega)
              · obtain ⟨dg, hdg⟩ : ∃ dg : Nat, ln_at L C (tAt (tBond L C t)) - 48 = dg := ⟨(ln_at L C (tAt (tBond L C t)) - 48).toNat, by omega⟩
                rw [hbr, if_pos ⟨hrm, by omega, by omega⟩, show (ln_at L C (tAt (tBond L C t)) - 48).toNat = dg by omega]
                have hM2 : mj_Met Γ 2 y_Tr_readRing M_Tr_readRing [.ref 5, .int (iZ dg), .int (iZ (tTold L C t))] S_57 0 0 (mj_I fun z S' => mj_fr S_57 S' [5, 6, 7, 8, 9, 10, 11, 12] ∧ z = (tRing dg (tTold L C t) (tBond L C t)).1 ∧ mj_tr S' (tRing dg (tTold L C t) (tBond L C t)).2) := by
                  have q9 := hbo.1
                  have hd9 : dg < 10 := by omega
                  revert q9 g2
                  generalize tBond L C t = u
                  intro g2 q9
                  obtain ⟨n, K, F, B, RA, RB, BA, br, la, rm, at_⟩ := u
                  exact m_Tr_readRing (d := 2) hw2 g2 q9 hd9 hto (by omega)
                refine mj_aload_n d_Tr_readPart_70 rfl ?_
                refine mj_iload d_Tr_readPart_71 rfl ?_
                refine mz_bipush d_Tr_readPart_73 (by decide) ?_
                refine mz_isub d_Tr_readPart_75 ?_
                rw [hdg]
                refine mj_iload_n d_Tr_readPart_76 rfl ?_
                refine mz_callV2i (ci := 3) d_Tr_readPart_77 (hM2) cw_Tr_readRing lk_Tr_84 rfl rfl (by omega) (by assumption) (by omega) rfl (fun z_77 S_77 h_77 => ?_)
                obtain ⟨g3, hz3, g4⟩ := h_77
                subst hz3
                refine mz_iret d_Tr_readPart_80 rfl (rfl) ?_
                exact ⟨g1.tr g3 (by simp) (by simp), rfl, g4⟩
          · rw [if_neg q]
            refine mz_if_eq 81 d_Tr_readPart_60 (by decide) (by omega) (fun c_60 => ?_) (fun c_60 => ?_)
            · exact atom (by omega)
            · omega
    · have e : tPart L C t = tOpen L C t := by unfold tPart; rw [if_neg c_12, if_pos c_23]
      rw [e]
      refine mj_aload_n d_Tr_readPart_26 rfl ?_
      refine mj_aload_n d_Tr_readPart_27 rfl ?_
      refine mz_callV1i (ci := 3) d_Tr_readPart_28 (m_Tr_openBranch (d := 3) hT hw hl ht0 hi0 (tAt_lt (C := C) (by rw [c_23]; decide)) (by omega)) cw_Tr_openBranch lk_Tr_70 rfl rfl (by omega) (by assumption) (by omega) rfl (fun z_28 S_28 h_28 => ?_)
      obtain ⟨g3, hz3, g4⟩ := h_28
      subst hz3
      refine mz_iret d_Tr_readPart_31 rfl (rfl) ?_
      exact ⟨g3, rfl, g4⟩
  · have e : tPart L C t = tClose t := by unfold tPart; rw [if_pos c_12]
    rw [e]
    have hM2 : mj_Met Γ 0 y_Tr_closeBranch M_Tr_closeBranch [.ref 5] S_5 0 0 (mj_I fun z S' => mj_fr S_5 S' [5] ∧ z = (tClose t).1 ∧ mj_tr S' (tClose t).2) := by
      obtain ⟨n, K, F, B, RA, RB, BA, br, la, rm, at_⟩ := t
      exact m_Tr_closeBranch (d := 0) hw ht0 hi0.2.2.2.2.2.1
    refine mj_aload_n d_Tr_readPart_15 rfl ?_
    refine mz_callV0i (ci := 3) d_Tr_readPart_16 (hM2) cw_Tr_closeBranch lk_Tr_67 rfl rfl (by omega) (by assumption) (by omega) rfl (fun z_16 S_16 h_16 => ?_)
    obtain ⟨g3, hz3, g4⟩ := h_16
    subst hz3
    refine mz_iret d_Tr_readPart_19 rfl (rfl) ?_
    exact ⟨g3.tr (mj_fr.rf _ []) (by simp) (by simp), rfl, g4⟩
end TR3
