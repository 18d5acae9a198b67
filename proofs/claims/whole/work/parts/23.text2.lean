/-! the reader of texts, on: rings, branches, parts, the whole -/
theorem mbind_eq {F B : Nat → Int} {a b : Nat} {v : Int} (hab : a ≠ b) (j : Nat) : mbind F B a b v j = F j - if j = a ∨ j = b then v - B (a * 6 + b) else 0 := by
  unfold mbind
  by_cases jb : j = b
  · subst jb
    rw [va_up_self, va_up_ne _ _ (Ne.symm hab), if_pos (Or.inr rfl)]
  · rw [va_up_ne _ _ jb]
    by_cases ja : j = a
    · subst ja
      rw [va_up_self, if_pos (Or.inl rfl)]
    · rw [va_up_ne _ _ ja, if_neg (by omega)]
      omega
theorem bset_r {B : Nat → Int} {a b : Nat} {v : Int} (hB : ∀ j, j < 36 → 0 ≤ B j ∧ B j ≤ 3) (hv : 0 ≤ v ∧ v ≤ 3) : ∀ j, j < 36 → 0 ≤ bset B a b v j ∧ bset B a b v j ≤ 3 := by
  intro j hj
  unfold bset
  by_cases jb : j = b * 6 + a
  · subst jb; rw [va_up_self]; exact hv
  · rw [va_up_ne _ _ jb]
    by_cases ja : j = a * 6 + b
    · subst ja; rw [va_up_self]; exact hv
    · rw [va_up_ne _ _ ja]; exact hB j hj
def tAt (t : TS) : Nat := t.2.2.2.2.2.2.2.2.2.2
theorem tI_bond {L : Nat} {C : Nat → Int} {t : TS} (h : tI L t) : tI L (tBond L C t) ∧ tAt t ≤ tAt (tBond L C t) := by
  obtain ⟨n, K, F, B, RA, RB, BA, br, la, rm, at_⟩ := t
  obtain ⟨h1, h2, h3, h4, h5, h6, h7, h8, h9, h10⟩ := h
  have key : (if tbd (ln_at L C at_) = 0 then at_ else at_ + 1) ≤ L ∧ at_ ≤ (if tbd (ln_at L C at_) = 0 then at_ else at_ + 1) := by
    by_cases q : tbd (ln_at L C at_) = 0
    · rw [if_pos q]; exact ⟨h7, Nat.le_refl _⟩
    · rw [if_neg q]
      refine ⟨?_, by omega⟩
      by_cases z : at_ < L
      · exact z
      · exfalso
        apply q
        rw [show ln_at L C at_ = 32 by unfold ln_at; rw [if_neg (by omega)]]
        rfl
  refine ⟨⟨h1, h2, h3, h4, h5, h6, key.1, fun j hj => ?_, h9, h10⟩, key.2⟩
  have := h8 j hj
  have := key.2
  constructor <;> omega
theorem tI_push {L : Nat} {t : TS} (h : tI L t) (ha : tAt t < L) : tI L (tPush t) ∧ tAt (tPush t) = tAt t + 1 := by
  obtain ⟨n, K, F, B, RA, RB, BA, br, la, rm, at_⟩ := t
  obtain ⟨h1, h2, h3, h4, h5, h6, h7, h8, h9, h10⟩ := h
  have ha : at_ < L := ha
  refine ⟨⟨h1, h2, h3, h4, fun j hj => ?_, ?_, by omega, fun j hj => ?_, h9, h10⟩, rfl⟩
  · by_cases q : br < 6
    · rw [if_pos q] at hj ⊢
      by_cases e : j = br
      · subst e; rw [va_up_self]; exact h3
      · rw [va_up_ne _ _ e]; exact h5 j (by omega)
    · rw [if_neg q] at hj ⊢
      exact h5 j hj
  · split <;> omega
  · have := h8 j hj
    constructor <;> omega
theorem tI_close {L : Nat} {t : TS} (h : tI L t) (ha : tAt t < L) (hz : (tClose t).1 = -1) : tI L (tClose t).2 ∧ tAt t < tAt (tClose t).2 := by
  obtain ⟨n, K, F, B, RA, RB, BA, br, la, rm, at_⟩ := t
  obtain ⟨h1, h2, h3, h4, h5, h6, h7, h8, h9, h10⟩ := h
  have ha : at_ < L := ha
  by_cases q : br = 0
  · rw [show tClose (n, K, F, B, RA, RB, BA, br, la, rm, at_) = (-2, (n, K, F, B, RA, RB, BA, br, la, rm, at_)) from if_pos q] at hz
    exact absurd hz (by simp)
  · rw [show tClose (n, K, F, B, RA, RB, BA, br, la, rm, at_) = (-1, (n, K, F, B, RA, RB, BA, br - 1, BA (br - 1), false, at_ + 1)) from if_neg q]
    refine ⟨⟨h1, h2, h5 (br - 1) (by omega), h4, fun j hj => h5 j (by omega), by omega, by omega, fun j hj => ?_, h9, h10⟩, by show at_ < at_ + 1; omega⟩
    have := h8 j hj
    constructor <;> omega
theorem tI_atom {L : Nat} {C : Nat → Int} {t : TS} {told : Int} (h : tI L t) (hto : 0 ≤ told ∧ told ≤ 3) (hz : (tAtom L C told t).1 = -1) : tI L (tAtom L C told t).2 ∧ tAt t < tAt (tAtom L C told t).2 := by
  obtain ⟨n, K, F, B, RA, RB, BA, br, la, rm, at_⟩ := t
  obtain ⟨h1, h2, ⟨l, rfl, hl⟩, h4, h5, h6, h7, h8, h9, h10⟩ := h
  by_cases q1 : ln_el L C at_ = -1 ∨ ln_el L C at_ = 9
  · rw [show tAtom L C told (n, K, F, B, RA, RB, BA, br, (l : Int), rm, at_) = (-2, (n, K, F, B, RA, RB, BA, br, (l : Int), rm, at_)) from if_pos q1] at hz
    exact absurd hz (by simp)
  · by_cases q2 : 6 ≤ n
    · rw [show tAtom L C told (n, K, F, B, RA, RB, BA, br, (l : Int), rm, at_) = (-5, (n, K, F, B, RA, RB, BA, br, (l : Int), rm, at_)) by unfold tAtom; simp only []; rw [if_neg q1, if_pos q2]] at hz
      exact absurd hz (by simp)
    · have re := ln_el_r L C at_
      obtain ⟨e, he⟩ : ∃ e : Nat, ln_el L C at_ = e := ⟨(ln_el L C at_).toNat, by omega⟩
      have het : (ln_el L C at_).toNat = e := by omega
      have hin := ln_el_in (n := L) (C := C) (a := at_) (by omega)
      rw [het] at hin
      have hA : tAtom L C told (n, K, F, B, RA, RB, BA, br, (l : Int), rm, at_) = (-1, (n + 1, va_up K n e, mbind (va_up F n (mj_VAL e)) B l n (max told 1), bset B l n (max told 1), RA, RB, BA, br, (n : Int), true, at_ + if mj_SND e = 0 then 1 else 2)) := by
        unfold tAtom
        simp only []
        rw [if_neg (by omega), if_neg (by omega), het, he, if_neg (by omega), if_neg (by omega)]
        rfl
      rw [hA]
      have hlen : at_ < at_ + (if mj_SND e = 0 then 1 else 2) := by split <;> omega
      refine ⟨⟨by omega, by omega, ⟨n, rfl, by omega⟩, fun j hj => ?_, fun j hj => ?_, h6, hin.2, fun j hj => ?_, bset_r h9 (by omega), fun j hj => ?_⟩, hlen⟩
      · rcases h4 j hj with w | ⟨⟨l2, w1, w2⟩, w3⟩
        · exact Or.inl w
        · exact Or.inr ⟨⟨l2, w1, by omega⟩, w3⟩
      · obtain ⟨l2, w1, w2⟩ := h5 j hj
        exact ⟨l2, w1, by omega⟩
      · have hb := h9 (l * 6 + n) (by omega)
        have hv := mj_VAL_r e
        rw [mbind_eq (by omega)]
        by_cases e2 : j = n
        · subst e2
          rw [va_up_self, if_pos (Or.inr rfl)]
          constructor <;> omega
        · rw [va_up_ne _ _ e2]
          have := h8 j (by omega)
          split <;> constructor <;> omega
      · by_cases e2 : j = n
        · subst e2; rw [va_up_self]; exact ⟨e, rfl, by omega⟩
        · rw [va_up_ne _ _ e2]; exact h10 j (by omega)
theorem tI_ring {L : Nat} {t : TS} {told : Int} {dg : Nat} (h : tI L t) (hto : 0 ≤ told ∧ told ≤ 3) (hdg : dg < 10) (ha : tAt t < L) (hz : (tRing dg told t).1 = -1) : tI L (tRing dg told t).2 ∧ tAt t < tAt (tRing dg told t).2 := by
  obtain ⟨n, K, F, B, RA, RB, BA, br, la, rm, at_⟩ := t
  obtain ⟨h1, h2, ⟨l, rfl, hl⟩, h4, h5, h6, h7, h8, h9, h10⟩ := h
  have ha : at_ < L := ha
  by_cases q1 : RA dg = -1
  · rw [show tRing dg told (n, K, F, B, RA, RB, BA, br, (l : Int), rm, at_) = (-1, (n, K, F, B, va_up RA dg (l : Int), va_up RB dg told, BA, br, (l : Int), rm, at_ + 1)) from if_pos q1]
    refine ⟨⟨h1, h2, ⟨l, rfl, hl⟩, fun j hj => ?_, h5, h6, by omega, fun j hj => ?_, h9, h10⟩, by show at_ < at_ + 1; omega⟩
    · by_cases e : j = dg
      · subst e; rw [va_up_self, va_up_self]; exact Or.inr ⟨⟨l, rfl, hl⟩, hto⟩
      · rw [va_up_ne _ _ e, va_up_ne _ _ e]; exact h4 j hj
    · have := h8 j hj
      constructor <;> omega
  · rcases h4 dg hdg with w | ⟨⟨s, w1, w2⟩, w3⟩
    · exact absurd w q1
    · by_cases q2 : (RB dg ≠ 0 ∧ told ≠ 0 ∧ RB dg ≠ told) ∨ RA dg = (l : Int) ∨ 0 < B ((RA dg).toNat * 6 + (l : Int).toNat)
      · rw [show tRing dg told (n, K, F, B, RA, RB, BA, br, (l : Int), rm, at_) = (-7, (n, K, F, B, RA, RB, BA, br, (l : Int), rm, at_)) by unfold tRing; simp only []; rw [if_neg q1, if_pos q2]] at hz
        exact absurd hz (by simp)
      · have hA : tRing dg told (n, K, F, B, RA, RB, BA, br, (l : Int), rm, at_) = (-1, (n, K, mbind F B s l (max 1 (max (RB dg) told)), bset B s l (max 1 (max (RB dg) told)), va_up RA dg (-1), RB, BA, br, (l : Int), rm, at_ + 1)) := by
          unfold tRing
          simp only []
          rw [if_neg q1, if_neg q2, w1]
          rfl
        rw [hA]
        have hsl : s ≠ l := fun e => q2 (Or.inr (Or.inl (by rw [w1, e])))
        refine ⟨⟨h1, h2, ⟨l, rfl, hl⟩, fun j hj => ?_, h5, h6, by omega, fun j hj => ?_, bset_r h9 (by omega), h10⟩, by show at_ < at_ + 1; omega⟩
        · by_cases e : j = dg
          · subst e; rw [va_up_self]; exact Or.inl rfl
          · rw [va_up_ne _ _ e]; exact h4 j hj
        · have hb := h9 (s * 6 + l) (by omega)
          have := h8 j hj
          rw [mbind_eq hsl]
          split <;> constructor <;> omega
section TR2
variable {Γ : mj_G} {d L n br at_ : Nat} {S : mj_S} {C K F B RA RB BA : Nat → Int} {la : Int} {rm : Bool}
theorem m_Tr_readRing (hw : S.2.1 = 65) (ht : mj_tr S (n, K, F, B, RA, RB, BA, br, la, rm, at_)) (hi : tI L (n, K, F, B, RA, RB, BA, br, la, rm, at_)) {dg : Nat} (hdg : dg < 10) {told : Int} (hto : 0 ≤ told ∧ told ≤ 3) (hd : 2 ≤ d) : mj_Met Γ d y_Tr_readRing M_Tr_readRing [.ref 5, .int (iZ dg), .int (iZ told)] S 0 0 (mj_I fun z S' => mj_fr S S' [5, 6, 7, 8, 9, 10, 11, 12] ∧ z = (tRing dg told (n, K, F, B, RA, RB, BA, br, la, rm, at_)).1 ∧ mj_tr S' (tRing dg told (n, K, F, B, RA, RB, BA, br, la, rm, at_)).2) := by
  have ht0 := ht
  obtain ⟨t1, t2, t3, t4, t5⟩ := ht
  obtain ⟨h1, h2, ⟨l, rfl, hl⟩, h4, h5, h6, h7, h8, h9, h10⟩ := hi
  have m1 := t2.1
  have hR := h4 dg hdg
  have hRr : iR (RA dg) := by
    rcases hR with w | ⟨⟨s, w1, w2⟩, w3⟩
    · rw [w]; decide
    · rw [w1]; omega
  refine mj_Met.of (by decide) ⟨rfl, rfl⟩ rfl rfl rfl ?_
  refine mj_aload_n d_Tr_readRing_0 rfl ?_
  refine mj_get (ci := 3) (j := 1) d_Tr_readRing_1 rfl w_Tr_18 (by decide) (by omega) (by assumption) rfl ?_
  refine mj_iload_n d_Tr_readRing_4 rfl ?_
  refine mz_iald d_Tr_readRing_5 (by omega) (by assumption) (rfl) (by omega) ?_
  refine mz_ist3 d_Tr_readRing_6 (rfl) ?_
  refine mj_iload_n d_Tr_readRing_7 rfl ?_
  refine mz_iconst d_Tr_readRing_8 ?_
  refine mz_icmp_ne 32 d_Tr_readRing_9 (by decide) (hRr) (by decide) (fun c_9 => ?_) (fun c_9 => ?_)
  · rcases hR with w | ⟨⟨s, w1, w2⟩, w3⟩
    · exact absurd w c_9
    · have hA7 : ((RB dg ≠ 0 ∧ told ≠ 0 ∧ RB dg ≠ told) ∨ RA dg = (l : Int) ∨ 0 < B (s * 6 + l)) → tRing dg told (n, K, F, B, RA, RB, BA, br, (l : Int), rm, at_) = (-7, (n, K, F, B, RA, RB, BA, br, (l : Int), rm, at_)) := fun q => by
        unfold tRing
        simp only []
        rw [if_neg c_9, if_pos (by rw [w1] at q ⊢; exact q)]
      have hA1 : ¬ ((RB dg ≠ 0 ∧ told ≠ 0 ∧ RB dg ≠ told) ∨ RA dg = (l : Int) ∨ 0 < B (s * 6 + l)) → tRing dg told (n, K, F, B, RA, RB, BA, br, (l : Int), rm, at_) = (-1, (n, K, mbind F B s l (max 1 (max (RB dg) told)), bset B s l (max 1 (max (RB dg) told)), va_up RA dg (-1), RB, BA, br, (l : Int), rm, at_ + 1)) := fun q => by
        unfold tRing
        simp only []
        rw [if_neg c_9, if_neg (by rw [w1] at q ⊢; exact q), w1]
        rfl
      have hbs := h9 (s * 6 + l) (by omega)
      rw [w1]
      have bad : ∀ (x4 x5 : Value), ((RB dg ≠ 0 ∧ told ≠ 0 ∧ RB dg ≠ told) ∨ RA dg = (l : Int) ∨ 0 < B (s * 6 + l)) → mj_Ok Γ d M_Tr_readRing 0 0 90 [.ref 5, .int (iZ dg), .int (iZ told), .int (iZ (s : Int)), x4, x5] [] S (mj_I fun z S' => mj_fr S S' [5, 6, 7, 8, 9, 10, 11, 12] ∧ z = (tRing dg told (n, K, F, B, RA, RB, BA, br, (l : Int), rm, at_)).1 ∧ mj_tr S' (tRing dg told (n, K, F, B, RA, RB, BA, br, (l : Int), rm, at_)).2) := by
        intro x4 x5 q
        refine mz_bipush d_Tr_readRing_90 (by decide) ?_
        refine mz_iret d_Tr_readRing_92 rfl (rfl) ?_
        rw [hA7 q]
        exact ⟨mj_fr.rf _ _, rfl, ht0⟩
      have good : ∀ x5 : Value, ¬ (RB dg ≠ 0 ∧ told ≠ 0 ∧ RB dg ≠ told) → mj_Ok Γ d M_Tr_readRing 0 0 67 [.ref 5, .int (iZ dg), .int (iZ told), .int (iZ (s : Int)), .int (iZ (RB dg)), x5] [] S (mj_I fun z S' => mj_fr S S' [5, 6, 7, 8, 9, 10, 11, 12] ∧ z = (tRing dg told (n, K, F, B, RA, RB, BA, br, (l : Int), rm, at_)).1 ∧ mj_tr S' (tRing dg told (n, K, F, B, RA, RB, BA, br, (l : Int), rm, at_)).2) := by
        intro x5 hnd
        refine mj_iload_n d_Tr_readRing_67 rfl ?_
        refine mj_aload_n d_Tr_readRing_68 rfl ?_
        refine mj_get (ci := 3) (j := 5) d_Tr_readRing_69 rfl w_Tr_41 (by decide) (by omega) (by assumption) rfl ?_
        refine mz_icmp_eq 90 d_Tr_readRing_72 (by decide) (by omega) (by omega) (fun c_72 => ?_) (fun c_72 => ?_)
        · exact bad _ _ (Or.inr (Or.inl (by rw [w1]; exact c_72)))
        · refine mj_aload_n d_Tr_readRing_75 rfl ?_
          refine mj_get (ci := 3) (j := 0) d_Tr_readRing_76 rfl w_Tr_12 (by decide) (by omega) (by assumption) rfl ?_
          refine mj_iload_n d_Tr_readRing_79 rfl ?_
          refine mj_aload_n d_Tr_readRing_80 rfl ?_
          refine mj_get (ci := 3) (j := 5) d_Tr_readRing_81 rfl w_Tr_41 (by decide) (by omega) (by assumption) rfl ?_
          refine mz_callV2i (ci := 4) d_Tr_readRing_84 (m_Ml_between (d := 0) hw t2 (by omega) (by omega)) cw_Ml_between lk_Tr_111 rfl rfl (by omega) (by assumption) (by omega) rfl (fun z_84 S_84 h_84 => ?_)
          obtain ⟨rfl, rfl⟩ := h_84
          refine mz_if_le 93 d_Tr_readRing_87 (by decide) (by omega) (fun c_87 => ?_) (fun c_87 => ?_)
          · rw [hA1 (by rw [w1]; omega)]
            refine mj_aload_n d_Tr_readRing_93 rfl ?_
            refine mj_get (ci := 3) (j := 0) d_Tr_readRing_94 rfl w_Tr_12 (by decide) (by omega) (by assumption) rfl ?_
            refine mj_iload_n d_Tr_readRing_97 rfl ?_
            refine mj_aload_n d_Tr_readRing_98 rfl ?_
            refine mj_get (ci := 3) (j := 5) d_Tr_readRing_99 rfl w_Tr_41 (by decide) (by omega) (by assumption) rfl ?_
            refine mz_iconst d_Tr_readRing_102 ?_
            refine mj_iload d_Tr_readRing_103 rfl ?_
            refine mj_iload_n d_Tr_readRing_105 rfl ?_
            refine mz_mmax d_Tr_readRing_106 lk_Tr_99 (by omega) rfl (by omega) (by omega) ?_
            refine mz_mmax d_Tr_readRing_109 lk_Tr_99 (by omega) rfl (by omega) (by omega) ?_
            refine mz_callV3v (ci := 4) d_Tr_readRing_112 (m_Ml_bind (d := 1) hw t2 (by omega) (by omega) (by omega)) cw_Ml_bind lk_Tr_104 rfl rfl (by omega) (by assumption) (by omega) rfl (fun S_112 h_112 => ?_)
            obtain ⟨g1, g2⟩ := h_112
            have w112 := g1.w
            have t1 := g1.at t1 (by simp)
            have t3 := g1.at t3 (by simp)
            have t4 := g1.at t4 (by simp)
            have t5 := g1.at t5 (by simp)
            refine mj_aload_n d_Tr_readRing_115 rfl ?_
            refine mj_get (ci := 3) (j := 1) d_Tr_readRing_116 rfl w_Tr_18 (by decide) (by omega) (by assumption) rfl ?_
            refine mj_iload_n d_Tr_readRing_119 rfl ?_
            refine mz_iconst d_Tr_readRing_120 ?_
            refine mz_iast d_Tr_readRing_121 (by omega) (by assumption) (rfl) (by omega) (fun S_121 w_121 e_121 f_121 => ?_)
            have t1 := f_121.at t1 (by simp; try omega)
            have t4 := f_121.at t4 (by simp; try omega)
            have t5 := f_121.at t5 (by simp; try omega)
            refine mj_aload_n d_Tr_readRing_122 rfl ?_
            refine mj_dup d_Tr_readRing_123 rfl ?_
            refine mj_get (ci := 3) (j := 7) d_Tr_readRing_124 rfl w_Tr_44 (by decide) (by omega) (by assumption) rfl ?_
            refine mz_iconst d_Tr_readRing_127 ?_
            refine mz_iadd d_Tr_readRing_128 ?_
            refine mz_put (ci := 3) (j := 7) d_Tr_readRing_129 rfl w_Tr_44 (by decide) rfl (by omega) (by assumption) (Nat.le_of_ble_eq_true rfl) (mj_fit_int _) rfl (fun S_129 w_129 e_129 f_129 => ?_)
            have t4 := f_129.at t4 (by simp; try omega)
            have t5 := f_129.at t5 (by simp; try omega)
            have e_121 := f_129.at e_121 (by simp; try omega)
            refine mz_iconst d_Tr_readRing_132 ?_
            refine mz_iret d_Tr_readRing_133 rfl (rfl) ?_
            have f2 : mj_fr S_112 S_129 [5, 10] := f_121.tr f_129 (by simp) (by simp)
            exact ⟨g1.tr f2 (by simp) (by simp), rfl, e_129, g2.fr f2 (by simp), e_121, t4, t5⟩
          · exact bad _ _ (Or.inr (Or.inr c_87))
      refine mj_aload_n d_Tr_readRing_32 rfl ?_
      refine mj_get (ci := 3) (j := 2) d_Tr_readRing_33 rfl w_Tr_22 (by decide) (by omega) (by assumption) rfl ?_
      refine mj_iload_n d_Tr_readRing_36 rfl ?_
      refine mz_iald d_Tr_readRing_37 (by omega) (by assumption) (rfl) (by omega) ?_
      refine mz_ist4 d_Tr_readRing_38 (rfl) ?_
      refine mj_iload d_Tr_readRing_40 rfl ?_
      refine mz_if_eq 59 d_Tr_readRing_42 (by decide) (by omega) (fun c_42 => ?_) (fun c_42 => ?_)
      · refine mz_iconst d_Tr_readRing_59 ?_
        refine mz_ist5 d_Tr_readRing_60 (rfl) ?_
        refine mj_iload d_Tr_readRing_62 rfl ?_
        refine mz_if_ne 90 d_Tr_readRing_64 (by decide) (by omega) (fun c_64 => ?_) (fun c_64 => ?_)
        · simp at c_64
        · exact good _ (by omega)
      · refine mj_iload_n d_Tr_readRing_45 rfl ?_
        refine mz_if_eq 59 d_Tr_readRing_46 (by decide) (by omega) (fun c_46 => ?_) (fun c_46 => ?_)
        · refine mz_iconst d_Tr_readRing_59 ?_
          refine mz_ist5 d_Tr_readRing_60 (rfl) ?_
          refine mj_iload d_Tr_readRing_62 rfl ?_
          refine mz_if_ne 90 d_Tr_readRing_64 (by decide) (by omega) (fun c_64 => ?_) (fun c_64 => ?_)
          · simp at c_64
          · exact good _ (by omega)
        · refine mj_iload d_Tr_readRing_49 rfl ?_
          refine mj_iload_n d_Tr_readRing_51 rfl ?_
          refine mz_icmp_eq 59 d_Tr_readRing_52 (by decide) (by omega) (by omega) (fun c_52 => ?_) (fun c_52 => ?_)
          · refine mz_iconst d_Tr_readRing_59 ?_
            refine mz_ist5 d_Tr_readRing_60 (rfl) ?_
            refine mj_iload d_Tr_readRing_62 rfl ?_
            refine mz_if_ne 90 d_Tr_readRing_64 (by decide) (by omega) (fun c_64 => ?_) (fun c_64 => ?_)
            · simp at c_64
            · exact good _ (by omega)
          · refine mz_iconst d_Tr_readRing_55 ?_
            refine mj_goto 60 d_Tr_readRing_56 (by decide) ?_
            refine mz_ist5 d_Tr_readRing_60 (rfl) ?_
            refine mj_iload d_Tr_readRing_62 rfl ?_
            refine mz_if_ne 90 d_Tr_readRing_64 (by decide) (by omega) (fun c_64 => ?_) (fun c_64 => ?_)
            · exact bad _ _ (Or.inl ⟨c_42, c_46, c_52⟩)
            · simp at c_64
  · have hA : tRing dg told (n, K, F, B, RA, RB, BA, br, (l : Int), rm, at_) = (-1, (n, K, F, B, va_up RA dg (l : Int), va_up RB dg told, BA, br, (l : Int), rm, at_ + 1)) := if_pos c_9
    rw [hA]
    refine mj_aload_n d_Tr_readRing_12 rfl ?_
    refine mj_get (ci := 3) (j := 1) d_Tr_readRing_13 rfl w_Tr_18 (by decide) (by omega) (by assumption) rfl ?_
    refine mj_iload_n d_Tr_readRing_16 rfl ?_
    refine mj_aload_n d_Tr_readRing_17 rfl ?_
    refine mj_get (ci := 3) (j := 5) d_Tr_readRing_18 rfl w_Tr_41 (by decide) (by omega) (by assumption) rfl ?_
    refine mz_iast d_Tr_readRing_21 (by omega) (by assumption) (rfl) (by omega) (fun S_21 w_21 e_21 f_21 => ?_)
    have t1 := f_21.at t1 (by simp; try omega)
    have t4 := f_21.at t4 (by simp; try omega)
    have t5 := f_21.at t5 (by simp; try omega)
    refine mj_aload_n d_Tr_readRing_22 rfl ?_
    refine mj_get (ci := 3) (j := 2) d_Tr_readRing_23 rfl w_Tr_22 (by decide) (by omega) (by assumption) rfl ?_
    refine mj_iload_n d_Tr_readRing_26 rfl ?_
    refine mj_iload_n d_Tr_readRing_27 rfl ?_
    refine mz_iast d_Tr_readRing_28 (by omega) (by assumption) (rfl) (by omega) (fun S_28 w_28 e_28 f_28 => ?_)
    have t1 := f_28.at t1 (by simp; try omega)
    have t5 := f_28.at t5 (by simp; try omega)
    have e_21 := f_28.at e_21 (by simp; try omega)
    refine mj_goto 122 d_Tr_readRing_29 (by decide) ?_
    refine mj_aload_n d_Tr_readRing_122 rfl ?_
    refine mj_dup d_Tr_readRing_123 rfl ?_
    refine mj_get (ci := 3) (j := 7) d_Tr_readRing_124 rfl w_Tr_44 (by decide) (by omega) (by assumption) rfl ?_
    refine mz_iconst d_Tr_readRing_127 ?_
    refine mz_iadd d_Tr_readRing_128 ?_
    refine mz_put (ci := 3) (j := 7) d_Tr_readRing_129 rfl w_Tr_44 (by decide) rfl (by omega) (by assumption) (Nat.le_of_ble_eq_true rfl) (mj_fit_int _) rfl (fun S_129 w_129 e_129 f_129 => ?_)
    have t5 := f_129.at t5 (by simp; try omega)
    have e_21 := f_129.at e_21 (by simp; try omega)
    have e_28 := f_129.at e_28 (by simp; try omega)
    have f2 : mj_fr S S_129 [5, 10, 11] := (f_21.tr f_28 (l := [10, 11]) (by simp) (by simp)).tr f_129 (by simp) (by simp)
    refine mz_iconst d_Tr_readRing_132 ?_
    refine mz_iret d_Tr_readRing_133 rfl (rfl) ?_
    exact ⟨f2.tr (mj_fr.rf _ []) (by simp) (by simp), rfl, e_129, t2.fr f2 (by simp), e_21, e_28, t5⟩
end TR2
