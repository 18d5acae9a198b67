/-! the reader of texts (5: molecule 6, ringAtoms 10, ringBonds 11, branchAtoms 12), and what it does, as pure functions over its state:
    (atoms, kinds, free, bonds, ring atoms, ring bonds, branch atoms, branches, last, rings may follow, at) -/
abbrev TS : Type := Nat × (Nat → Int) × (Nat → Int) × (Nat → Int) × (Nat → Int) × (Nat → Int) × (Nat → Int) × Nat × Int × Bool × Nat
def mj_tr (S : mj_S) (t : TS) : Prop := match t with
  | (n, K, F, B, RA, RB, BA, br, la, rm, at_) => S.1 5 = .inr (3, [.ref 6, .ref 10, .ref 11, .ref 12, .int (iZ br), .int (iZ la), .int (iZ (if rm then 1 else 0)), .int (iZ at_)]) ∧ mj_ml S 6 n K F B ∧ S.1 10 = .inl (0, 10, .inl (mj_z RA)) ∧ S.1 11 = .inl (0, 10, .inl (mj_z RB)) ∧ S.1 12 = .inl (0, 6, .inl (mj_z BA))
/-- what holds while a line of L characters is read, an atom being there -/
def tI (L : Nat) (t : TS) : Prop := match t with
  | (n, K, F, B, RA, RB, BA, br, la, rm, at_) => 1 ≤ n ∧ n ≤ 6 ∧ (∃ l : Nat, la = l ∧ l < n) ∧ (∀ j, j < 10 → RA j = -1 ∨ (∃ l : Nat, RA j = l ∧ l < n) ∧ 0 ≤ RB j ∧ RB j ≤ 3) ∧ (∀ j, j < br → ∃ l : Nat, BA j = l ∧ l < n) ∧ br ≤ 6 ∧ at_ ≤ L ∧ (∀ j, j < n → -4 - 3 * (at_ : Int) ≤ F j ∧ F j ≤ 4 + 3 * (at_ : Int)) ∧ (∀ j, j < 36 → 0 ≤ B j ∧ B j ≤ 3) ∧ (∀ j, j < n → ∃ k : Nat, K j = k ∧ k < 9)
def mbind (F B : Nat → Int) (a b : Nat) (v : Int) : Nat → Int := va_up (va_up F a (F a - (v - B (a * 6 + b)))) b (va_up F a (F a - (v - B (a * 6 + b))) b - (v - B (a * 6 + b)))
def tbd (c : Int) : Int := if c = 45 then 1 else if c = 61 then 2 else if c = 35 then 3 else 0
theorem tbd_r (c : Int) : 0 ≤ tbd c ∧ tbd c ≤ 3 := by
  unfold tbd
  split
  · decide
  · split
    · decide
    · split <;> decide
/-- a bond's sign read, or none -/
def tBond (L : Nat) (C : Nat → Int) (t : TS) : TS := match t with
  | (n, K, F, B, RA, RB, BA, br, la, rm, at_) => (n, K, F, B, RA, RB, BA, br, la, rm, if tbd (ln_at L C at_) = 0 then at_ else at_ + 1)
def tTold (L : Nat) (C : Nat → Int) (t : TS) : Int := match t with
  | (_, _, _, _, _, _, _, _, _, _, at_) => tbd (ln_at L C at_)
def tAtom (L : Nat) (C : Nat → Int) (told : Int) (t : TS) : Int × TS := match t with
  | (n, K, F, B, RA, RB, BA, br, la, rm, at_) =>
    if ln_el L C at_ = -1 ∨ ln_el L C at_ = 9 then (-2, t) else if 6 ≤ n then (-5, t) else
    (-1, (n + 1, va_up K n (ln_el L C at_), if la = -1 then va_up F n (mj_VAL (ln_el L C at_).toNat) else mbind (va_up F n (mj_VAL (ln_el L C at_).toNat)) B la.toNat n (max told 1), if la = -1 then B else bset B la.toNat n (max told 1), RA, RB, BA, br, (n : Int), true, at_ + if mj_SND (ln_el L C at_).toNat = 0 then 1 else 2))
def tRing (dg : Nat) (told : Int) (t : TS) : Int × TS := match t with
  | (n, K, F, B, RA, RB, BA, br, la, rm, at_) =>
    if RA dg = -1 then (-1, (n, K, F, B, va_up RA dg la, va_up RB dg told, BA, br, la, rm, at_ + 1)) else
    if (RB dg ≠ 0 ∧ told ≠ 0 ∧ RB dg ≠ told) ∨ RA dg = la ∨ 0 < B ((RA dg).toNat * 6 + la.toNat) then (-7, t) else
    (-1, (n, K, mbind F B (RA dg).toNat la.toNat (max 1 (max (RB dg) told)), bset B (RA dg).toNat la.toNat (max 1 (max (RB dg) told)), va_up RA dg (-1), RB, BA, br, la, rm, at_ + 1))
def tClose (t : TS) : Int × TS := match t with
  | (n, K, F, B, RA, RB, BA, br, la, rm, at_) => if br = 0 then (-2, t) else (-1, (n, K, F, B, RA, RB, BA, br - 1, BA (br - 1), false, at_ + 1))
def tPush (t : TS) : TS := match t with
  | (n, K, F, B, RA, RB, BA, br, la, rm, at_) => (n, K, F, B, RA, RB, if br < 6 then va_up BA br la else BA, if br < 6 then br + 1 else br, la, rm, at_ + 1)
def tOpen (L : Nat) (C : Nat → Int) (t : TS) : Int × TS := tAtom L C (tTold L C (tPush t)) (tBond L C (tPush t))
section TR
variable {Γ : mj_G} {d L n br at_ : Nat} {S : mj_S} {C K F B RA RB BA : Nat → Int} {la : Int} {rm : Bool}
theorem mj_fitZ (b : Bool) : mj_fit .boolean (.int (iZ (if b then 1 else 0))) := by cases b <;> exact ⟨rfl, rfl⟩
theorem m_Tr_closeBranch (hw : S.2.1 = 65) (ht : mj_tr S (n, K, F, B, RA, RB, BA, br, la, rm, at_)) (hb : br ≤ 6) : mj_Met Γ d y_Tr_closeBranch M_Tr_closeBranch [.ref 5] S 0 0 (mj_I fun z S' => mj_fr S S' [5] ∧ z = (tClose (n, K, F, B, RA, RB, BA, br, la, rm, at_)).1 ∧ mj_tr S' (tClose (n, K, F, B, RA, RB, BA, br, la, rm, at_)).2) := by
  obtain ⟨t1, t2, t3, t4, t5⟩ := ht
  refine mj_Met.of (by decide) ⟨rfl, rfl⟩ rfl rfl rfl ?_
  refine mj_aload_n d_Tr_closeBranch_0 rfl ?_
  refine mj_get (ci := 3) (j := 4) d_Tr_closeBranch_1 rfl w_Tr_37 (by decide) (by omega) (by assumption) rfl ?_
  refine mz_if_ne 10 d_Tr_closeBranch_4 (by decide) (by omega) (fun c_4 => ?_) (fun c_4 => ?_)
  · refine mj_aload_n d_Tr_closeBranch_10 rfl ?_
    refine mj_dup d_Tr_closeBranch_11 rfl ?_
    refine mj_get (ci := 3) (j := 4) d_Tr_closeBranch_12 rfl w_Tr_37 (by decide) (by omega) (by assumption) rfl ?_
    refine mz_iconst d_Tr_closeBranch_15 ?_
    refine mz_isub d_Tr_closeBranch_16 ?_
    refine mz_put (ci := 3) (j := 4) d_Tr_closeBranch_17 rfl w_Tr_37 (by decide) rfl (by omega) (by assumption) (Nat.le_of_ble_eq_true rfl) (mj_fit_int _) rfl (fun S_17 w_17 e_17 f_17 => ?_)
    have hbr : br ≠ 0 := by omega
    have t5 := f_17.at t5 (by simp; try omega)
    rw [show (br : Int) - 1 = ((br - 1 : Nat) : Int) by omega] at e_17
    refine mj_aload_n d_Tr_closeBranch_20 rfl ?_
    refine mj_aload_n d_Tr_closeBranch_21 rfl ?_
    refine mj_get (ci := 3) (j := 3) d_Tr_closeBranch_22 rfl w_Tr_25 (by decide) (by omega) (by assumption) rfl ?_
    refine mj_aload_n d_Tr_closeBranch_25 rfl ?_
    refine mj_get (ci := 3) (j := 4) d_Tr_closeBranch_26 rfl w_Tr_37 (by decide) (by omega) (by assumption) rfl ?_
    refine mz_iald d_Tr_closeBranch_29 (by omega) (by assumption) (rfl) (by omega) ?_
    refine mz_put (ci := 3) (j := 5) d_Tr_closeBranch_30 rfl w_Tr_41 (by decide) rfl (by omega) (by assumption) (Nat.le_of_ble_eq_true rfl) (mj_fit_int _) rfl (fun S_30 w_30 e_30 f_30 => ?_)
    refine mj_aload_n d_Tr_closeBranch_33 rfl ?_
    refine mz_iconst d_Tr_closeBranch_34 ?_
    refine mz_put (ci := 3) (j := 6) d_Tr_closeBranch_35 rfl w_Tr_76 (by decide) rfl (by omega) (by assumption) (Nat.le_of_ble_eq_true rfl) (mj_fitZ false) rfl (fun S_35 w_35 e_35 f_35 => ?_)
    refine mj_aload_n d_Tr_closeBranch_38 rfl ?_
    refine mj_dup d_Tr_closeBranch_39 rfl ?_
    refine mj_get (ci := 3) (j := 7) d_Tr_closeBranch_40 rfl w_Tr_44 (by decide) (by omega) (by assumption) rfl ?_
    refine mz_iconst d_Tr_closeBranch_43 ?_
    refine mz_iadd d_Tr_closeBranch_44 ?_
    refine mz_put (ci := 3) (j := 7) d_Tr_closeBranch_45 rfl w_Tr_44 (by decide) rfl (by omega) (by assumption) (Nat.le_of_ble_eq_true rfl) (mj_fit_int _) rfl (fun S_45 w_45 e_45 f_45 => ?_)
    have f2 : mj_fr S S_45 [5] := ((f_17.tr f_30 (l := [5]) (by simp) (by simp)).tr f_35 (l := [5]) (by simp) (by simp)).tr f_45 (by simp) (by simp)
    refine mz_iconst d_Tr_closeBranch_48 ?_
    refine mz_iret d_Tr_closeBranch_49 rfl (rfl) ?_
    have e : tClose (n, K, F, B, RA, RB, BA, br, la, rm, at_) = (-1, (n, K, F, B, RA, RB, BA, br - 1, BA (br - 1), false, at_ + 1)) := if_neg hbr
    rw [e]
    exact ⟨f2, rfl, e_45, t2.fr f2 (by simp), f2.at t3 (by simp), f2.at t4 (by simp), ((((f_30.tr f_35 (l := [5]) (by simp) (by simp)).tr f_45 (l := [5]) (by simp) (by simp)).at t5 (by simp)))⟩
  · refine mz_bipush d_Tr_closeBranch_7 (by decide) ?_
    refine mz_iret d_Tr_closeBranch_9 rfl (rfl) ?_
    have e : tClose (n, K, F, B, RA, RB, BA, br, la, rm, at_) = (-2, (n, K, F, B, RA, RB, BA, br, la, rm, at_)) := if_pos (by omega)
    rw [e]
    exact ⟨mj_fr.rf _ _, rfl, t1, t2, t3, t4, t5⟩
theorem m_Tr_readBond (hw : S.2.1 = 65) (hl : mj_ln S L C) (ht : mj_tr S (n, K, F, B, RA, RB, BA, br, la, rm, at_)) (hat : at_ ≤ 100) (hd : 1 ≤ d) : mj_Met Γ d y_Tr_readBond M_Tr_readBond [.ref 5, .ref 1] S 0 0 (mj_I fun z S' => mj_fr S S' [5] ∧ z = tTold L C (n, K, F, B, RA, RB, BA, br, la, rm, at_) ∧ mj_tr S' (tBond L C (n, K, F, B, RA, RB, BA, br, la, rm, at_))) := by
  have ht0 := ht
  have l1 := hl.1
  obtain ⟨t1, t2, t3, t4, t5⟩ := ht
  have r1 := ln_at_r hl.2.2.2 (n := L) at_
  refine mj_Met.of (by decide) ⟨rfl, rfl⟩ rfl rfl rfl ?_
  refine mj_aload_n d_Tr_readBond_0 rfl ?_
  refine mj_aload_n d_Tr_readBond_1 rfl ?_
  refine mj_get (ci := 3) (j := 7) d_Tr_readBond_2 rfl w_Tr_44 (by decide) (by omega) (by assumption) rfl ?_
  refine mz_callV1i (ci := 1) d_Tr_readBond_5 (m_Ln_at (d := 0) hw hl (by omega)) cw_Ln_at lk_Tr_64 rfl rfl (by omega) (by assumption) (by omega) rfl (fun z_5 S_5 h_5 => ?_)
  obtain ⟨rfl, rfl⟩ := h_5
  have fin : ∀ v : Int, v = tbd (ln_at L C at_) → mj_Ok Γ d M_Tr_readBond 0 0 40 [.ref 5, .ref 1, .int (iZ (ln_at L C at_)), .retAddr 0] [.int (iZ v)] S_5 (mj_I fun z S' => mj_fr S_5 S' [5] ∧ z = tTold L C (n, K, F, B, RA, RB, BA, br, la, rm, at_) ∧ mj_tr S' (tBond L C (n, K, F, B, RA, RB, BA, br, la, rm, at_))) := by
    intro v hv
    have hr := tbd_r (ln_at L C at_)
    rw [← hv] at hr
    refine mz_ist3 d_Tr_readBond_40 (rfl) ?_
    refine mj_iload_n d_Tr_readBond_41 rfl ?_
    refine mz_if_eq 55 d_Tr_readBond_42 (by decide) (by omega) (fun c_42 => ?_) (fun c_42 => ?_)
    · refine mj_iload_n d_Tr_readBond_55 rfl ?_
      refine mz_iret d_Tr_readBond_56 rfl (rfl) ?_
      have e : tBond L C (n, K, F, B, RA, RB, BA, br, la, rm, at_) = (n, K, F, B, RA, RB, BA, br, la, rm, at_) := by unfold tBond; simp only []; rw [if_pos (by rw [← hv]; exact c_42)]
      rw [e]
      exact ⟨mj_fr.rf _ _, hv, ht0⟩
    · refine mj_aload_n d_Tr_readBond_45 rfl ?_
      refine mj_dup d_Tr_readBond_46 rfl ?_
      refine mj_get (ci := 3) (j := 7) d_Tr_readBond_47 rfl w_Tr_44 (by decide) (by omega) (by assumption) rfl ?_
      refine mz_iconst d_Tr_readBond_50 ?_
      refine mz_iadd d_Tr_readBond_51 ?_
      refine mz_put (ci := 3) (j := 7) d_Tr_readBond_52 rfl w_Tr_44 (by decide) rfl (by omega) (by assumption) (Nat.le_of_ble_eq_true rfl) (mj_fit_int _) rfl (fun S_52 w_52 e_52 f_52 => ?_)
      refine mj_iload_n d_Tr_readBond_55 rfl ?_
      refine mz_iret d_Tr_readBond_56 rfl (rfl) ?_
      have e : tBond L C (n, K, F, B, RA, RB, BA, br, la, rm, at_) = (n, K, F, B, RA, RB, BA, br, la, rm, at_ + 1) := by unfold tBond; simp only []; rw [if_neg (by rw [← hv]; exact c_42)]
      rw [e]
      exact ⟨f_52, hv, e_52, t2.fr f_52 (by simp), f_52.at t3 (by simp), f_52.at t4 (by simp), f_52.at t5 (by simp)⟩
  refine mz_ist2 d_Tr_readBond_8 (rfl) ?_
  refine mj_iload_n d_Tr_readBond_9 rfl ?_
  refine mz_bipush d_Tr_readBond_10 (by decide) ?_
  refine mz_icmp_ne 19 d_Tr_readBond_12 (by decide) (by omega) (by omega) (fun c_12 => ?_) (fun c_12 => ?_)
  · refine mj_iload_n d_Tr_readBond_19 rfl ?_
    refine mz_bipush d_Tr_readBond_20 (by decide) ?_
    refine mz_icmp_ne 29 d_Tr_readBond_22 (by decide) (by omega) (by omega) (fun c_22 => ?_) (fun c_22 => ?_)
    · refine mj_iload_n d_Tr_readBond_29 rfl ?_
      refine mz_bipush d_Tr_readBond_30 (by decide) ?_
      refine mz_icmp_ne 39 d_Tr_readBond_32 (by decide) (by omega) (by omega) (fun c_32 => ?_) (fun c_32 => ?_)
      · refine mz_iconst d_Tr_readBond_39 ?_
        exact fin 0 (by unfold tbd; rw [if_neg c_12, if_neg c_22, if_neg c_32])
      · refine mz_iconst d_Tr_readBond_35 ?_
        refine mj_goto 40 d_Tr_readBond_36 (by decide) ?_
        exact fin 3 (by unfold tbd; rw [if_neg c_12, if_neg c_22, if_pos c_32])
    · refine mz_iconst d_Tr_readBond_25 ?_
      refine mj_goto 40 d_Tr_readBond_26 (by decide) ?_
      exact fin 2 (by unfold tbd; rw [if_neg c_12, if_pos c_22])
  · refine mz_iconst d_Tr_readBond_15 ?_
    refine mj_goto 40 d_Tr_readBond_16 (by decide) ?_
    exact fin 1 (by unfold tbd; rw [if_pos c_12])
theorem m_Tr_readAtom (hT : mj_tab Γ) (hw : S.2.1 = 65) (hl : mj_ln S L C) (ht : mj_tr S (n, K, F, B, RA, RB, BA, br, la, rm, at_)) (hat : at_ ≤ 100) (hn : n ≤ 6) (hla : la = -1 ∨ ∃ l : Nat, la = l ∧ l < n) {told : Int} (hto : 0 ≤ told ∧ told ≤ 3) (hd : 2 ≤ d) : mj_Met Γ d y_Tr_readAtom M_Tr_readAtom [.ref 5, .ref 1, .int (iZ told)] S 0 0 (mj_I fun z S' => mj_fr S S' [5, 6, 7, 8, 9] ∧ z = (tAtom L C told (n, K, F, B, RA, RB, BA, br, la, rm, at_)).1 ∧ mj_tr S' (tAtom L C told (n, K, F, B, RA, RB, BA, br, la, rm, at_)).2) := by
  have ht0 := ht
  have l1 := hl.1
  obtain ⟨t1, t2, t3, t4, t5⟩ := ht
  have re := ln_el_r L C at_
  refine mj_Met.of (by decide) ⟨rfl, rfl⟩ rfl rfl rfl ?_
  refine mj_aload_n d_Tr_readAtom_0 rfl ?_
  refine mj_aload_n d_Tr_readAtom_1 rfl ?_
  refine mj_get (ci := 3) (j := 7) d_Tr_readAtom_2 rfl w_Tr_44 (by decide) (by omega) (by assumption) rfl ?_
  refine mz_callV1i (ci := 1) d_Tr_readAtom_5 (m_Ln_elementAt (d := 1) hT hw hl (by omega) (by omega)) cw_Ln_elementAt lk_Tr_88 rfl rfl (by omega) (by assumption) (by omega) rfl (fun z_5 S_5 h_5 => ?_)
  obtain ⟨rfl, rfl⟩ := h_5
  have m1 := t2.1
  refine mz_ist3 d_Tr_readAtom_8 (rfl) ?_
  refine mj_iload_n d_Tr_readAtom_9 rfl ?_
  refine mz_iconst d_Tr_readAtom_10 ?_
  refine mz_icmp_eq 20 d_Tr_readAtom_11 (by decide) (by omega) (by omega) (fun c_11 => ?_) (fun c_11 => ?_)
  · refine mz_bipush d_Tr_readAtom_20 (by decide) ?_
    refine mz_iret d_Tr_readAtom_22 rfl (rfl) ?_
    have e : tAtom L C told (n, K, F, B, RA, RB, BA, br, la, rm, at_) = (-2, (n, K, F, B, RA, RB, BA, br, la, rm, at_)) := if_pos (Or.inl c_11)
    rw [e]
    exact ⟨mj_fr.rf _ _, rfl, ht0⟩
  · refine mj_iload_n d_Tr_readAtom_14 rfl ?_
    refine mz_bipush d_Tr_readAtom_15 (by decide) ?_
    refine mz_icmp_ne 23 d_Tr_readAtom_17 (by decide) (by omega) (by omega) (fun c_17 => ?_) (fun c_17 => ?_)
    · refine mj_aload_n d_Tr_readAtom_23 rfl ?_
      refine mj_get (ci := 3) (j := 0) d_Tr_readAtom_24 rfl w_Tr_12 (by decide) (by omega) (by assumption) rfl ?_
      refine mj_get (ci := 4) (j := 3) d_Tr_readAtom_27 rfl w_Tr_92 (by decide) (by omega) (by assumption) rfl ?_
      refine mz_ist4 d_Tr_readAtom_30 (rfl) ?_
      refine mj_iload d_Tr_readAtom_32 rfl ?_
      refine mz_bipush d_Tr_readAtom_34 (by decide) ?_
      refine mz_icmp_lt 42 d_Tr_readAtom_36 (by decide) (by omega) (by omega) (fun c_36 => ?_) (fun c_36 => ?_)
      · obtain ⟨e, he⟩ : ∃ e : Nat, ln_el L C at_ = e := ⟨(ln_el L C at_).toNat, by omega⟩
        have het : (ln_el L C at_).toNat = e := by omega
        have hA : tAtom L C told (n, K, F, B, RA, RB, BA, br, la, rm, at_) = (-1, (n + 1, va_up K n e, if la = -1 then va_up F n (mj_VAL e) else mbind (va_up F n (mj_VAL e)) B la.toNat n (max told 1), if la = -1 then B else bset B la.toNat n (max told 1), RA, RB, BA, br, (n : Int), true, at_ + if mj_SND e = 0 then 1 else 2)) := by
          unfold tAtom
          simp only []
          rw [if_neg (by omega), if_neg (by omega), het, he]
        rw [hA, he]
        refine mj_aload_n d_Tr_readAtom_42 rfl ?_
        refine mj_get (ci := 3) (j := 0) d_Tr_readAtom_43 rfl w_Tr_12 (by decide) (by omega) (by assumption) rfl ?_
        refine mj_iload_n d_Tr_readAtom_46 rfl ?_
        refine mz_callV1v (ci := 4) d_Tr_readAtom_47 (m_Ml_addAtom (d := 0) hT hw t2 (by omega) (by omega)) cw_Ml_addAtom lk_Tr_95 rfl rfl (by omega) (by assumption) (by omega) rfl (fun S_47 h_47 => ?_)
        obtain ⟨g1, g2⟩ := h_47
        have w47 := g1.w
        have t1 := g1.at t1 (by simp)
        have tail : ∀ (S1 : mj_S) (F1 B1 : Nat → Int), mj_fr S_5 S1 [6, 7, 8, 9] → mj_ml S1 6 (n + 1) (va_up K n e) F1 B1 → mj_Ok Γ d M_Tr_readAtom 0 0 76 [.ref 5, .ref 1, .int (iZ told), .int (iZ e), .int (iZ n)] [] S1 (mj_I fun z S' => mj_fr S_5 S' [5, 6, 7, 8, 9] ∧ z = -1 ∧ mj_tr S' (n + 1, va_up K n e, F1, B1, RA, RB, BA, br, (n : Int), true, at_ + if mj_SND e = 0 then 1 else 2)) := by
          intro S1 F1 B1 f1 hm1
          have w1 := f1.w
          have t1 := f1.at ht0.1 (by simp)
          refine mj_aload_n d_Tr_readAtom_76 rfl ?_
          refine mj_iload d_Tr_readAtom_77 rfl ?_
          refine mz_put (ci := 3) (j := 5) d_Tr_readAtom_79 rfl w_Tr_41 (by decide) rfl (by omega) (by assumption) (Nat.le_of_ble_eq_true rfl) (mj_fit_int _) rfl (fun S_79 w_79 e_79 f_79 => ?_)
          refine mj_aload_n d_Tr_readAtom_82 rfl ?_
          refine mz_iconst d_Tr_readAtom_83 ?_
          refine mz_put (ci := 3) (j := 6) d_Tr_readAtom_84 rfl w_Tr_76 (by decide) rfl (by omega) (by assumption) (Nat.le_of_ble_eq_true rfl) (mj_fitZ true) rfl (fun S_84 w_84 e_84 f_84 => ?_)
          refine mj_aload_n d_Tr_readAtom_87 rfl ?_
          refine mj_dup d_Tr_readAtom_88 rfl ?_
          refine mj_get (ci := 3) (j := 7) d_Tr_readAtom_89 rfl w_Tr_44 (by decide) (by omega) (by assumption) rfl ?_
          refine mj_iload_n d_Tr_readAtom_92 rfl ?_
          refine mz_callSN1i d_Tr_readAtom_93 (m_IL_signLength (d := 0) hT (by omega)) cw_IL_signLength lk_Tr_108 (by omega) rfl (fun z_93 S_93 h_93 => ?_)
          obtain ⟨rfl, rfl⟩ := h_93
          refine mz_iadd d_Tr_readAtom_96 ?_
          refine mz_put (ci := 3) (j := 7) d_Tr_readAtom_97 rfl w_Tr_44 (by decide) rfl (by omega) (by assumption) (Nat.le_of_ble_eq_true rfl) (mj_fit_int _) rfl (fun S_97 w_97 e_97 f_97 => ?_)
          have f2 : mj_fr S1 S_97 [5] := (f_79.tr f_84 (l := [5]) (by simp) (by simp)).tr f_97 (by simp) (by simp)
          have f3 : mj_fr S_5 S_97 [5, 6, 7, 8, 9] := f1.tr f2 (by simp) (by simp)
          rw [show (at_ : Int) + (if mj_SND e = 0 then 1 else 2) = ((at_ + if mj_SND e = 0 then 1 else 2 : Nat) : Int) by split <;> omega] at e_97
          refine mz_iconst d_Tr_readAtom_100 ?_
          refine mz_iret d_Tr_readAtom_101 rfl (rfl) ?_
          exact ⟨f3, rfl, e_97, hm1.fr f2 (by simp), f3.at ht0.2.2.1 (by simp), f3.at ht0.2.2.2.1 (by simp), f3.at ht0.2.2.2.2 (by simp)⟩
        have f1 : mj_fr S_5 S_47 [6, 7, 8, 9] := g1.tr (mj_fr.rf _ []) (by simp) (by simp)
        have hlr : iR la := by
          rcases hla with h | ⟨l, h, h2⟩
          · rw [h]; decide
          · rw [h]; omega
        refine mj_aload_n d_Tr_readAtom_50 rfl ?_
        refine mj_get (ci := 3) (j := 5) d_Tr_readAtom_51 rfl w_Tr_41 (by decide) (by omega) (by assumption) rfl ?_
        refine mz_iconst d_Tr_readAtom_54 ?_
        refine mz_icmp_eq 76 d_Tr_readAtom_55 (by decide) (hlr) (by omega) (fun c_55 => ?_) (fun c_55 => ?_)
        · rw [if_pos c_55, if_pos c_55]
          exact tail S_47 _ _ f1 g2
        · rcases hla with hla | ⟨l, rfl, hl2⟩
          · exact absurd hla c_55
          · rw [if_neg c_55, if_neg c_55]
            have m1' := g2.1
            refine mj_aload_n d_Tr_readAtom_58 rfl ?_
            refine mj_get (ci := 3) (j := 0) d_Tr_readAtom_59 rfl w_Tr_12 (by decide) (by omega) (by assumption) rfl ?_
            refine mj_aload_n d_Tr_readAtom_62 rfl ?_
            refine mj_get (ci := 3) (j := 5) d_Tr_readAtom_63 rfl w_Tr_41 (by decide) (by omega) (by assumption) rfl ?_
            refine mj_iload d_Tr_readAtom_66 rfl ?_
            refine mj_iload_n d_Tr_readAtom_68 rfl ?_
            refine mz_iconst d_Tr_readAtom_69 ?_
            refine mz_mmax d_Tr_readAtom_70 lk_Tr_99 (by omega) rfl (by omega) (by omega) ?_
            refine mz_callV3v (ci := 4) d_Tr_readAtom_73 (m_Ml_bind (d := 1) (by omega) g2 (by omega) (by omega) (by omega)) cw_Ml_bind lk_Tr_104 rfl rfl (by omega) (by assumption) (by omega) rfl (fun S_73 h_73 => ?_)
            obtain ⟨g3, g4⟩ := h_73
            exact tail S_73 _ _ (f1.tr g3 (by simp) (by simp)) g4
      · refine mz_bipush d_Tr_readAtom_39 (by decide) ?_
        refine mz_iret d_Tr_readAtom_41 rfl (rfl) ?_
        have e : tAtom L C told (n, K, F, B, RA, RB, BA, br, la, rm, at_) = (-5, (n, K, F, B, RA, RB, BA, br, la, rm, at_)) := by
          unfold tAtom
          simp only []
          rw [if_neg (by omega), if_pos (by omega)]
        rw [e]
        exact ⟨mj_fr.rf _ _, rfl, ht0⟩
    · refine mz_bipush d_Tr_readAtom_20 (by decide) ?_
      refine mz_iret d_Tr_readAtom_22 rfl (rfl) ?_
      have e : tAtom L C told (n, K, F, B, RA, RB, BA, br, la, rm, at_) = (-2, (n, K, F, B, RA, RB, BA, br, la, rm, at_)) := if_pos (Or.inr c_17)
      rw [e]
      exact ⟨mj_fr.rf _ _, rfl, ht0⟩
end TR
