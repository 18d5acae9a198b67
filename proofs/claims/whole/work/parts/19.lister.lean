/-! the lister (20: draft, numbering 24, molecule 27, valencesFrom 31, groups 32): sums of valences, groups -/
def mj_ls (S : mj_S) (ca : Nat) (V : Nat → Int) : Prop := S.1 20 = .inr (7, [.ref ca, .ref 24, .ref 27, .ref 31, .ref 32]) ∧ S.1 31 = .inl (0, 7, .inl (mj_z V))
/-- the sum of F from a on, m places -/
def mj_vs (F : Nat → Int) : Nat → Nat → Int
  | 0, _ => 0
  | m + 1, a => mj_vs F m (a + 1) + F a
section LS
variable {Γ : mj_G} {d n ca : Nat} {S : mj_S} {K F B V : Nat → Int}
theorem m_Ls_sumValences (hw : S.2.1 = 65) (hl : mj_ls S ca V) (hm : mj_ml S 27 n K F B) (hn : n ≤ 6) : mj_Met Γ d y_Ls_sumValences M_Ls_sumValences [.ref 20] S 0 0 (mj_V fun S' => mj_fr S S' [31] ∧ ∃ V', mj_ls S' ca V' ∧ ∀ a, a ≤ n → V' a = mj_vs F (n - a) a) := by
  obtain ⟨l1, l2⟩ := hl
  obtain ⟨m1, m2, m3, m4, m5⟩ := hm
  refine mj_Met.of (by decide) ⟨rfl, rfl⟩ rfl rfl rfl ?_
  refine mj_aload_n d_Ls_sumValences_0 rfl ?_
  refine mj_get (ci := 7) (j := 3) d_Ls_sumValences_1 rfl w_Ls_32 (by decide) (by omega) (by assumption) rfl ?_
  refine mj_aload_n d_Ls_sumValences_4 rfl ?_
  refine mj_get (ci := 7) (j := 2) d_Ls_sumValences_5 rfl w_Ls_28 (by decide) (by omega) (by assumption) rfl ?_
  refine mj_get (ci := 4) (j := 3) d_Ls_sumValences_8 rfl w_Ls_54 (by decide) (by omega) (by assumption) rfl ?_
  refine mz_iconst d_Ls_sumValences_11 ?_
  refine mz_iast d_Ls_sumValences_12 (by omega) (by assumption) (rfl) (by omega) (fun S_12 w_12 e_12 f_12 => ?_)
  have l1 := f_12.at l1 (by simp; try omega)
  have m1 := f_12.at m1 (by simp; try omega)
  have m3 := f_12.at m3 (by simp; try omega)
  refine mj_aload_n d_Ls_sumValences_13 rfl ?_
  refine mj_get (ci := 7) (j := 2) d_Ls_sumValences_14 rfl w_Ls_28 (by decide) (by omega) (by assumption) rfl ?_
  refine mj_get (ci := 4) (j := 3) d_Ls_sumValences_17 rfl w_Ls_54 (by decide) (by omega) (by assumption) rfl ?_
  refine mz_iconst d_Ls_sumValences_20 ?_
  refine mz_isub d_Ls_sumValences_21 ?_
  refine mz_ist1 d_Ls_sumValences_22 (rfl) ?_
  have loop : ∀ (a : Nat) (S1 : mj_S) (V1 : Nat → Int), a ≤ n → mj_fr S S1 [31] → S1.1 31 = .inl (0, 7, .inl (mj_z V1)) → (∀ j, a ≤ j → j ≤ n → V1 j = mj_vs F (n - j) j) → mj_Ok Γ d M_Ls_sumValences 0 0 23 [.ref 20, .int (iZ ((a : Int) - 1))] [] S1 (mj_V fun S' => mj_fr S S' [31] ∧ ∃ V', mj_ls S' ca V' ∧ ∀ a, a ≤ n → V' a = mj_vs F (n - a) a) := by
    intro a
    induction a with
    | zero =>
      intro S1 V1 ha f1 h1 hV
      have hw1 := f1.w
      refine mj_iload_n d_Ls_sumValences_23 rfl ?_
      refine mz_if_lt 57 d_Ls_sumValences_24 (by decide) (by omega) (fun c_24 => ?_) (fun c_24 => ?_)
      · refine mz_vret d_Ls_sumValences_57 rfl ?_
        exact ⟨f1, V1, ⟨((f1.2 20 (by simp)).trans ((f_12.2 20 (by simp)).symm.trans l1)), h1⟩, fun a ha => hV a (by omega) ha⟩
      · omega
    | succ a ih =>
      intro S1 V1 ha f1 h1 hV
      have hw1 := f1.w
      have l1' : S1.1 20 = _ := (f1.2 20 (by simp)).trans ((f_12.2 20 (by simp)).symm.trans l1)
      have m1' : S1.1 27 = _ := (f1.2 27 (by simp)).trans ((f_12.2 27 (by simp)).symm.trans m1)
      have m3' : S1.1 (27 + 2) = _ := (f1.2 29 (by simp)).trans ((f_12.2 29 (by simp)).symm.trans m3)
      refine mj_iload_n d_Ls_sumValences_23 rfl ?_
      refine mz_if_lt 57 d_Ls_sumValences_24 (by decide) (by omega) (fun c_24 => ?_) (fun c_24 => ?_)
      · omega
      · refine mj_aload_n d_Ls_sumValences_27 rfl ?_
        refine mj_get (ci := 7) (j := 3) d_Ls_sumValences_28 rfl w_Ls_32 (by decide) (by omega) (by assumption) rfl ?_
        refine mj_iload_n d_Ls_sumValences_31 rfl ?_
        refine mj_aload_n d_Ls_sumValences_32 rfl ?_
        refine mj_get (ci := 7) (j := 3) d_Ls_sumValences_33 rfl w_Ls_32 (by decide) (by omega) (by assumption) rfl ?_
        refine mj_iload_n d_Ls_sumValences_36 rfl ?_
        refine mz_iconst d_Ls_sumValences_37 ?_
        refine mz_iadd d_Ls_sumValences_38 ?_
        refine mz_iald (j := a + 1) d_Ls_sumValences_39 (by omega) (by assumption) (by omega) (by omega) ?_
        refine mj_aload_n d_Ls_sumValences_40 rfl ?_
        refine mj_get (ci := 7) (j := 2) d_Ls_sumValences_41 rfl w_Ls_28 (by decide) (by omega) (by assumption) rfl ?_
        refine mj_get (ci := 4) (j := 1) d_Ls_sumValences_44 rfl w_Ls_57 (by decide) (by omega) (by assumption) rfl ?_
        refine mj_iload_n d_Ls_sumValences_47 rfl ?_
        refine mz_iald (j := a) d_Ls_sumValences_48 (by omega) (by assumption) (by omega) (by omega) ?_
        refine mz_iadd d_Ls_sumValences_49 ?_
        refine mz_iast (j := a) d_Ls_sumValences_50 (by omega) (by assumption) (by omega) (by omega) (fun S_50 w_50 e_50 f_50 => ?_)
        refine mz_inc1 d_Ls_sumValences_51 (rfl) ?_
        refine mj_goto 23 d_Ls_sumValences_54 (by decide) ?_
        have w := ih S_50 _ (by omega) (f1.tr f_50 (by simp) (by simp)) e_50 (fun j hj hj2 => by
          by_cases e : j = a
          · subst e
            rw [va_up_self, hV (j + 1) (by omega) (by omega), show n - j = n - (j + 1) + 1 by omega, mj_vs]
          · rw [va_up_ne _ _ e]
            exact hV j (by omega) hj2)
        rw [show ((a + 1 : Nat) : Int) - 1 + -1 = (a : Int) - 1 by omega]
        exact w
  exact loop n S_12 _ (by omega) (f_12.tr (mj_fr.rf _ []) (by simp) (by simp)) e_12 (fun j h1 h2 => by
    rw [show j = n by omega, va_up_self, Nat.sub_self]; rfl)
theorem m_Ls_joinGroups {fr to l : Nat} {GA : Nat → Int} {G : Nat → Nat} (hw : S.2.1 = 65) (hl : mj_ls S ca V) (hg : S.1 32 = .inl (0, 6, .inl (mj_z GA))) (hl6 : l < 6) (hG : ∀ j, j ≤ l → GA j = G j ∧ G j < 1000) (hfr : fr < 1000) :
    mj_Met Γ d y_Ls_joinGroups M_Ls_joinGroups [.ref 20, .int (iZ fr), .int (iZ to), .int (iZ l)] S 0 0 (mj_V fun S' => mj_fr S S' [32] ∧ ∃ GA', S'.1 32 = .inl (0, 6, .inl (mj_z GA')) ∧ ∀ j, j ≤ l → GA' j = ((if G j = fr then to else G j : Nat) : Int)) := by
  obtain ⟨l1, l2⟩ := hl
  refine mj_Met.of (by decide) ⟨rfl, rfl⟩ rfl rfl rfl ?_
  refine mz_iconst d_Ls_joinGroups_0 ?_
  refine mz_ist4 d_Ls_joinGroups_1 (rfl) ?_
  have loop : ∀ (q i : Nat) (S1 : mj_S) (G1 : Nat → Int), i + q = l + 1 → mj_fr S S1 [32] → S1.1 32 = .inl (0, 6, .inl (mj_z G1)) → (∀ j, j < i → G1 j = ((if G j = fr then to else G j : Nat) : Int)) → (∀ j, i ≤ j → j ≤ l → G1 j = G j) → mj_Ok Γ d M_Ls_joinGroups 0 0 3 [.ref 20, .int (iZ fr), .int (iZ to), .int (iZ l), .int (iZ i)] [] S1
      (mj_V fun S' => mj_fr S S' [32] ∧ ∃ GA', S'.1 32 = .inl (0, 6, .inl (mj_z GA')) ∧ ∀ j, j ≤ l → GA' j = ((if G j = fr then to else G j : Nat) : Int)) := by
    intro q
    induction q with
    | zero =>
      intro i S1 G1 hi f1 h1 ha hb
      refine mj_iload d_Ls_joinGroups_3 rfl ?_
      refine mj_iload_n d_Ls_joinGroups_5 rfl ?_
      refine mz_icmp_gt 34 d_Ls_joinGroups_6 (by decide) (by omega) (by omega) (fun c_6 => ?_) (fun c_6 => ?_)
      · refine mz_vret d_Ls_joinGroups_34 rfl ?_
        exact ⟨f1, G1, h1, fun j hj => ha j (by omega)⟩
      · omega
    | succ q ih =>
      intro i S1 G1 hi f1 h1 ha hb
      have hw1 := f1.w
      have l1' := f1.at l1 (by simp)
      have hgi := hG i (by omega)
      have hbi := hb i (Nat.le_refl _) (by omega)
      refine mj_iload d_Ls_joinGroups_3 rfl ?_
      refine mj_iload_n d_Ls_joinGroups_5 rfl ?_
      refine mz_icmp_gt 34 d_Ls_joinGroups_6 (by decide) (by omega) (by omega) (fun c_6 => ?_) (fun c_6 => ?_)
      · omega
      · refine mj_aload_n d_Ls_joinGroups_9 rfl ?_
        refine mj_get (ci := 7) (j := 4) d_Ls_joinGroups_10 rfl w_Ls_36 (by decide) (by omega) (by assumption) rfl ?_
        refine mj_iload d_Ls_joinGroups_13 rfl ?_
        refine mz_iald d_Ls_joinGroups_15 (by omega) (by assumption) (rfl) (by omega) ?_
        rw [hbi]
        refine mj_iload_n d_Ls_joinGroups_16 rfl ?_
        refine mz_icmp_ne 28 d_Ls_joinGroups_17 (by decide) (by omega) (by omega) (fun c_17 => ?_) (fun c_17 => ?_)
        · refine mz_inc4 d_Ls_joinGroups_28 (rfl) ?_
          refine mj_goto 3 d_Ls_joinGroups_31 (by decide) ?_
          refine ih (i + 1) S1 G1 (by omega) f1 h1 (fun j hj => ?_) (fun j hj => hb j (by omega))
          by_cases e : j = i
          · subst e; rw [hbi, if_neg (by omega)]
          · exact ha j (by omega)
        · refine mj_aload_n d_Ls_joinGroups_20 rfl ?_
          refine mj_get (ci := 7) (j := 4) d_Ls_joinGroups_21 rfl w_Ls_36 (by decide) (by omega) (by assumption) rfl ?_
          refine mj_iload d_Ls_joinGroups_24 rfl ?_
          refine mj_iload_n d_Ls_joinGroups_26 rfl ?_
          refine mz_iast d_Ls_joinGroups_27 (by omega) (by assumption) (rfl) (by omega) (fun S_27 w_27 e_27 f_27 => ?_)
          refine mz_inc4 d_Ls_joinGroups_28 (rfl) ?_
          refine mj_goto 3 d_Ls_joinGroups_31 (by decide) ?_
          refine ih (i + 1) S_27 _ (by omega) (f1.tr f_27 (by simp) (by simp)) e_27 (fun j hj => ?_) (fun j hj hj2 => ?_)
          · by_cases e : j = i
            · subst e; rw [va_up_self, if_pos (by omega)]
            · rw [va_up_ne _ _ e]; exact ha j (by omega)
          · rw [va_up_ne _ _ (by omega)]; exact hb j (by omega) hj2
  exact loop (l + 1) 0 S GA (by omega) (mj_fr.rf _ _) hg (fun j h => absurd h (Nat.not_lt_zero j)) (fun j _ h => (hG j h).1)
/-- groups joined by the bonds of atom a with those below it -/
def cgI (B : Nat → Nat) (a : Nat) (p : Int × (Nat → Nat)) : Int × (Nat → Nat) :=
  chR (fun b p => if 0 < B (a * 6 + b) ∧ p.2 b ≠ p.2 a then (p.1 - 1, fun j => if p.2 j = p.2 b then p.2 a else p.2 j) else p) a 0 p
def cgN (B : Nat → Nat) (n : Nat) : Int × (Nat → Nat) := chR (fun a p => cgI B a (p.1 + 1, va_up p.2 a a)) n 0 (0, fun _ => 0)
theorem m_Ls_countGroups {m : Nat} {GA : Nat → Int} {BN : Nat → Nat} (hw : S.2.1 = 65) (hl : mj_ls S ca V) (hm : mj_ml S 27 n K F B) (hB : ∀ j, j < 36 → B j = BN j ∧ BN j < 4) (hg : S.1 32 = .inl (0, 6, .inl (mj_z GA))) (hm6 : m ≤ 6) (hd : 1 ≤ d) :
    mj_Met Γ d y_Ls_countGroups M_Ls_countGroups [.ref 20, .int (iZ m)] S 0 0 (mj_I fun z S' => mj_fr S S' [32] ∧ z = (cgN BN m).1 ∧ ∃ GA', S'.1 32 = .inl (0, 6, .inl (mj_z GA'))) := by
  have hl0 := hl
  obtain ⟨l1, l2⟩ := hl
  refine mj_Met.of (by decide) ⟨rfl, rfl⟩ rfl rfl rfl ?_
  refine mz_iconst d_Ls_countGroups_0 ?_
  refine mz_ist2 d_Ls_countGroups_1 (rfl) ?_
  refine mz_iconst d_Ls_countGroups_2 ?_
  refine mz_ist3 d_Ls_countGroups_3 (rfl) ?_
  have loop : ∀ (q a : Nat) (S1 : mj_S) (G1 : Nat → Int) (p : Int × (Nat → Nat)), a + q = m → mj_fr S S1 [32] → S1.1 32 = .inl (0, 6, .inl (mj_z G1)) → (∀ j, j < a → G1 j = p.2 j ∧ p.2 j < 6) → ∀ x4 : Value, x4.category = 1 → mj_Ok Γ d M_Ls_countGroups 0 0 4 [.ref 20, .int (iZ m), .int (iZ p.1), .int (iZ a), x4] [] S1
      (mj_I fun z S' => mj_fr S S' [32] ∧ z = (chR (fun a p => cgI BN a (p.1 + 1, va_up p.2 a a)) q a p).1 ∧ ∃ GA', S'.1 32 = .inl (0, 6, .inl (mj_z GA'))) := by
    intro q
    induction q with
    | zero =>
      intro a S1 G1 p ha f1 h1 hp x4 hx4
      refine mj_iload_n d_Ls_countGroups_4 rfl ?_
      refine mj_iload_n d_Ls_countGroups_5 rfl ?_
      refine mz_icmp_ge 90 d_Ls_countGroups_6 (by decide) (by omega) (by omega) (fun c_6 => ?_) (fun c_6 => ?_)
      · refine mj_iload_n d_Ls_countGroups_90 rfl ?_
        refine mz_iret d_Ls_countGroups_91 rfl (rfl) ?_
        exact ⟨f1, rfl, G1, h1⟩
      · omega
    | succ q ih =>
      intro a S1 G1 p ha f1 h1 hp x4 hx4
      have hw1 := f1.w
      have l1' := f1.at l1 (by simp)
      refine mj_iload_n d_Ls_countGroups_4 rfl ?_
      refine mj_iload_n d_Ls_countGroups_5 rfl ?_
      refine mz_icmp_ge 90 d_Ls_countGroups_6 (by decide) (by omega) (by omega) (fun c_6 => ?_) (fun c_6 => ?_)
      · omega
      · refine mj_aload_n d_Ls_countGroups_9 rfl ?_
        refine mj_get (ci := 7) (j := 4) d_Ls_countGroups_10 rfl w_Ls_36 (by decide) (by omega) (by assumption) rfl ?_
        refine mj_iload_n d_Ls_countGroups_13 rfl ?_
        refine mj_iload_n d_Ls_countGroups_14 rfl ?_
        refine mz_iast d_Ls_countGroups_15 (by omega) (by assumption) (rfl) (by omega) (fun S_15 w_15 e_15 f_15 => ?_)
        refine mz_inc2 d_Ls_countGroups_16 (by unfold mj_c1; simp only [List.all_cons, hx4]; rfl) ?_
        refine mz_iconst d_Ls_countGroups_19 ?_
        refine mz_ist4 d_Ls_countGroups_20 (by unfold mj_c1; simp only [List.all_cons, hx4]; rfl) ?_
        have inner : ∀ (r b : Nat) (S2 : mj_S) (G2 : Nat → Int) (p2 : Int × (Nat → Nat)), b + r = a → mj_fr S S2 [32] → S2.1 32 = .inl (0, 6, .inl (mj_z G2)) → (∀ j, j ≤ a → G2 j = p2.2 j ∧ p2.2 j < 6) → mj_Ok Γ d M_Ls_countGroups 0 0 22 [.ref 20, .int (iZ m), .int (iZ p2.1), .int (iZ a), .int (iZ b)] [] S2
            (mj_I fun z S' => mj_fr S S' [32] ∧ z = (chR (fun a p => cgI BN a (p.1 + 1, va_up p.2 a a)) q (a + 1) (chR (fun b p => if 0 < BN (a * 6 + b) ∧ p.2 b ≠ p.2 a then (p.1 - 1, fun j => if p.2 j = p.2 b then p.2 a else p.2 j) else p) r b p2)).1 ∧ ∃ GA', S'.1 32 = .inl (0, 6, .inl (mj_z GA'))) := by
          intro r
          induction r with
          | zero =>
            intro b S2 G2 p2 hb f2 h2 hp2
            refine mj_iload d_Ls_countGroups_22 rfl ?_
            refine mj_iload_n d_Ls_countGroups_24 rfl ?_
            refine mz_icmp_ge 84 d_Ls_countGroups_25 (by decide) (by omega) (by omega) (fun c_25 => ?_) (fun c_25 => ?_)
            · refine mz_inc3 d_Ls_countGroups_84 (rfl) ?_
              refine mj_goto 4 d_Ls_countGroups_87 (by decide) ?_
              exact ih (a + 1) S2 G2 p2 (by omega) f2 h2 (fun j hj => hp2 j (by omega)) (.int (iZ b)) rfl
            · omega
          | succ r ih2 =>
            intro b S2 G2 p2 hb f2 h2 hp2
            have hw2 := f2.w
            have l1' := f2.at l1 (by simp)
            have hls2 : mj_ls S2 ca V := ⟨l1', f2.at l2 (by simp)⟩
            have hm2 : mj_ml S2 27 n K F B := hm.fr f2 (by simp)
            have m1' := hm2.1
            have hBb := hB (a * 6 + b) (by omega)
            have ga := hp2 a (Nat.le_refl _)
            have gb := hp2 b (by omega)
            refine mj_iload d_Ls_countGroups_22 rfl ?_
            refine mj_iload_n d_Ls_countGroups_24 rfl ?_
            refine mz_icmp_ge 84 d_Ls_countGroups_25 (by decide) (by omega) (by omega) (fun c_25 => ?_) (fun c_25 => ?_)
            · omega
            · refine mj_aload_n d_Ls_countGroups_28 rfl ?_
              refine mj_get (ci := 7) (j := 2) d_Ls_countGroups_29 rfl w_Ls_28 (by decide) (by omega) (by assumption) rfl ?_
              refine mj_iload_n d_Ls_countGroups_32 rfl ?_
              refine mj_iload d_Ls_countGroups_33 rfl ?_
              refine mz_callV2i (ci := 4) d_Ls_countGroups_35 (m_Ml_between (d := 0) (by omega) hm2 (by omega) (by omega)) cw_Ml_between lk_Ls_96 rfl rfl (by omega) (by assumption) (by omega) rfl (fun z_35 S_35 h_35 => ?_)
              obtain ⟨rfl, rfl⟩ := h_35
              rw [hBb.1]
              refine mz_if_le 78 d_Ls_countGroups_38 (by decide) (by omega) (fun c_38 => ?_) (fun c_38 => ?_)
              · refine mz_inc4 d_Ls_countGroups_78 (rfl) ?_
                refine mj_goto 22 d_Ls_countGroups_81 (by decide) ?_
                have w := ih2 (b + 1) S_35 G2 p2 (by omega) f2 h2 hp2
                rw [chR, if_neg (by omega)]
                exact w
              · refine mj_aload_n d_Ls_countGroups_41 rfl ?_
                refine mj_get (ci := 7) (j := 4) d_Ls_countGroups_42 rfl w_Ls_36 (by decide) (by omega) (by assumption) rfl ?_
                refine mj_iload d_Ls_countGroups_45 rfl ?_
                refine mz_iald d_Ls_countGroups_47 (by omega) (by assumption) (rfl) (by omega) ?_
                rw [gb.1]
                refine mj_aload_n d_Ls_countGroups_48 rfl ?_
                refine mj_get (ci := 7) (j := 4) d_Ls_countGroups_49 rfl w_Ls_36 (by decide) (by omega) (by assumption) rfl ?_
                refine mj_iload_n d_Ls_countGroups_52 rfl ?_
                refine mz_iald d_Ls_countGroups_53 (by omega) (by assumption) (rfl) (by omega) ?_
                rw [ga.1]
                refine mz_icmp_eq 78 d_Ls_countGroups_54 (by decide) (by omega) (by omega) (fun c_54 => ?_) (fun c_54 => ?_)
                · refine mz_inc4 d_Ls_countGroups_78 (rfl) ?_
                  refine mj_goto 22 d_Ls_countGroups_81 (by decide) ?_
                  have w := ih2 (b + 1) S_35 G2 p2 (by omega) f2 h2 hp2
                  rw [chR, if_neg (by omega)]
                  exact w
                · refine mj_aload_n d_Ls_countGroups_57 rfl ?_
                  refine mj_aload_n d_Ls_countGroups_58 rfl ?_
                  refine mj_get (ci := 7) (j := 4) d_Ls_countGroups_59 rfl w_Ls_36 (by decide) (by omega) (by assumption) rfl ?_
                  refine mj_iload d_Ls_countGroups_62 rfl ?_
                  refine mz_iald d_Ls_countGroups_64 (by omega) (by assumption) (rfl) (by omega) ?_
                  rw [gb.1]
                  refine mj_aload_n d_Ls_countGroups_65 rfl ?_
                  refine mj_get (ci := 7) (j := 4) d_Ls_countGroups_66 rfl w_Ls_36 (by decide) (by omega) (by assumption) rfl ?_
                  refine mj_iload_n d_Ls_countGroups_69 rfl ?_
                  refine mz_iald d_Ls_countGroups_70 (by omega) (by assumption) (rfl) (by omega) ?_
                  rw [ga.1]
                  refine mj_iload_n d_Ls_countGroups_71 rfl ?_
                  refine mz_callV3v (ci := 7) d_Ls_countGroups_72 (m_Ls_joinGroups (d := 0) (G := p2.2) (by omega) hls2 h2 (by omega) (fun j hj => ⟨(hp2 j hj).1, by have := (hp2 j hj).2; omega⟩) (by omega)) cw_Ls_joinGroups lk_Ls_99 rfl rfl (by omega) (by assumption) (by omega) rfl (fun S_72 h_72 => ?_)
                  obtain ⟨g1, G3, g2, g3⟩ := h_72
                  refine mz_inc2 d_Ls_countGroups_75 (rfl) ?_
                  refine mz_inc4 d_Ls_countGroups_78 (rfl) ?_
                  refine mj_goto 22 d_Ls_countGroups_81 (by decide) ?_
                  have w := ih2 (b + 1) S_72 G3 (p2.1 - 1, fun j => if p2.2 j = p2.2 b then p2.2 a else p2.2 j) (by omega) (f2.tr g1 (by simp) (by simp)) g2 (fun j hj => ⟨g3 j hj, by
                    show (if p2.2 j = p2.2 b then p2.2 a else p2.2 j) < 6
                    have := (hp2 j hj).2
                    split <;> omega⟩)
                  rw [chR, if_pos (by omega)]
                  exact w
        have w := inner a 0 S_15 (va_up G1 a a) (p.1 + 1, va_up p.2 a a) (by omega) (f1.tr f_15 (by simp) (by simp)) e_15 (fun j hj => by
          by_cases e : j = a
          · subst e; exact ⟨by rw [va_up_self]; show _ = ((va_up p.2 j j j : Nat) : Int); rw [va_up_self], by show va_up p.2 j j j < 6; rw [va_up_self]; omega⟩
          · have := hp j (by omega)
            exact ⟨by rw [va_up_ne _ _ e]; show _ = ((va_up p.2 a a j : Nat) : Int); rw [va_up_ne _ _ e]; exact this.1, by show va_up p.2 a a j < 6; rw [va_up_ne _ _ e]; exact this.2⟩)
        exact w
  exact loop m 0 S GA (0, fun _ => 0) (by omega) (mj_fr.rf _ _) hg (fun j h => absurd h (Nat.not_lt_zero j)) (.retAddr 0) rfl
end LS
