/-! the reference reads a text as the class does -/
theorem tLoop_at {L : Nat} {C : Nat → Int} : ∀ (m : Nat) (u : TS), tI L u → L ≤ tAt u + m → (tLoop L C m u).1 = -1 → tAt (tLoop L C m u).2 = L := by
  have le : ∀ u : TS, tI L u → tAt u ≤ L := by
    intro u h
    obtain ⟨n, K, F, B, RA, RB, BA, br, la, rm, at_⟩ := u
    obtain ⟨-, -, -, -, -, -, h7, -⟩ := h
    exact h7
  intro m
  induction m with
  | zero => intro u hi hm _; have := le u hi; show tAt u = L; omega
  | succ m ih =>
    intro u hi hm hz
    rw [tLoop] at hz ⊢
    by_cases q : tAt u < L
    · rw [if_pos q] at hz ⊢
      by_cases q2 : (tPart L C u).1 = -1
      · rw [if_pos q2] at hz ⊢
        have w := tI_part hi q2
        exact ih _ w.1 (by omega) hz
      · rw [if_neg q2] at hz
        exact absurd hz q2
    · rw [if_neg q]
      have := le u hi
      show tAt u = L
      omega
theorem tJ_sum {L n br at_ : Nat} {K F B RA RB BA : Nat → Int} {la : Int} {rm : Bool} {B' : Nat → Int} (hi : tI L (n, K, F, B, RA, RB, BA, br, la, rm, at_)) (hj : tJ (n, K, F, B, RA, RB, BA, br, la, rm, at_)) (hB : ∀ j, j < 36 → B' j = B j) {a : Nat} (ha : a < n) : mj_sum (fun y => B' (a * 6 + y)) n = mj_VAL (K a).toNat - F a := by
  obtain ⟨h1, h2, -⟩ := hi
  obtain ⟨-, j2, -, j4, -⟩ := hj
  have e1 : mj_sum (fun y => B' (a * 6 + y)) n = mj_sum (fun y => B (a * 6 + y)) n := mj_sum_congr n (fun y hy => hB _ (by omega))
  have e2 : ∀ m, n + m ≤ 6 → mj_sum (fun y => B (a * 6 + y)) (n + m) = mj_sum (fun y => B (a * 6 + y)) n := by
    intro m
    induction m with
    | zero => intro _; rfl
    | succ m ih => intro h; rw [← Nat.add_assoc, mj_sum, ih (by omega), j4 a (n + m) (by omega) (by omega) (by omega)]; omega
  have e3 := e2 (6 - n) (by omega)
  rw [show n + (6 - n) = 6 by omega] at e3
  have e4 := j2 a ha
  unfold mj_rs at e4
  omega
section PS4
variable {Γ : mj_G} {d L : Nat} {S0 S : mj_S} {C : Nat → Int} {wr am hy sr tr rs fo : Int} {Q : Int → mj_S → Prop}
theorem ps_loop (hw0 : S0.2.1 = 65) (hlc : mj_lc S0 C) (hL : L ≤ 60) (hd : 2 ≤ d) : ∀ (m : Nat) (t : TS) (S : mj_S) (x6 x7 x8 x9 x10 x11 x12 : Value), c1 x6 → c1 x7 → c1 x8 → c1 x9 → c1 x10 → c1 x11 → c1 x12 → tI L t → tJ t → psI S0 S L wr am hy sr tr rs fo t → L ≤ tAt t + m →
    ((tLoop L C m t).1 ≠ -1 → ∀ S', psE S0 S' L (tAt (tLoop L C m t).2 : Nat) am hy sr tr rs fo → Q (tLoop L C m t).1 S') →
    ((tLoop L C m t).1 = -1 → tJ (tLoop L C m t).2 → ∀ S' y6 y7 y8 y9 y10 y11 y12, c1 y6 → c1 y7 → c1 y8 → c1 y9 → c1 y10 → c1 y11 → c1 y12 → psI S0 S' L wr am hy sr tr rs fo (tLoop L C m t).2 → mj_Ok Γ d M_Mo_parse 0 0 33 (psF (tLoop L C m t).2 (if tRm (tLoop L C m t).2 then 1 else 2) 0 y6 y7 y8 y9 y10 y11 y12) [] S' (mj_I Q)) →
    mj_Ok Γ d M_Mo_parse 0 0 33 (psF t (if tRm t then 1 else 2) 0 x6 x7 x8 x9 x10 x11 x12) [] S (mj_I Q) := by
  intro m
  induction m with
  | zero =>
    intro t S x6 x7 x8 x9 x10 x11 x12 g6 g7 g8 g9 g10 g11 g12 hi hj h hm Hf Hok
    exact Hok rfl hj S _ _ _ _ _ _ _ g6 g7 g8 g9 g10 g11 g12 h
  | succ m ih =>
    intro t S x6 x7 x8 x9 x10 x11 x12 g6 g7 g8 g9 g10 g11 g12 hi hj h hm Hf Hok
    rw [tLoop] at Hf Hok
    by_cases q : tAt t < L
    · rw [if_pos q] at Hf Hok
      refine ps_part g6 g7 g8 g9 g10 g11 g12 hw0 hlc hL hi hj q h hd (fun hne S' hE => ?_) (fun hz hj2 S' y6 y7 y8 y9 y10 y11 y12 k6 k7 k8 k9 k10 k11 k12 hps => ?_)
      · rw [if_neg hne] at Hf
        exact Hf hne S' hE
      · rw [if_pos hz] at Hf Hok
        have w := tI_part hi hz
        exact ih _ S' y6 y7 y8 y9 y10 y11 y12 k6 k7 k8 k9 k10 k11 k12 w.1 hj2 hps (by omega) Hf Hok
    · rw [if_neg q] at Hok
      exact Hok rfl hj S _ _ _ _ _ _ _ g6 g7 g8 g9 g10 g11 g12 h
theorem m_Mo_atEnd {t : TS} (hw0 : S0.2.1 = 65) (hL : L ≤ 60) (hi : tI L t) (hj : tJ t) (h : psI S0 S L wr am hy sr tr rs fo t) (hd : 1 ≤ d) :
    mj_Met Γ d y_Mo_atEnd M_Mo_atEnd [.ref 40] S 0 0 (mj_I fun z S' => (0 < t.2.2.2.2.2.2.2.1) ∨ (tEnd t ≠ -1 ∧ z = tEnd t ∧ psE S0 S' L L am hy sr tr rs fo) ∨ (tEnd t = -1 ∧ z = 0 ∧ S' = S)) := by
  have hga := h.ga
  have hi0 := hi
  have hj0 := hj
  obtain ⟨n, K, F, B, RA, RB, BA, br, la, rm, at_⟩ := t
  obtain ⟨f1, hst, ⟨K', h3, h3'⟩, ⟨B', h4, h4'⟩, ⟨PL, h5, h5'⟩, ⟨RA', h6, h6'⟩, RB', h7, h7'⟩ := h
  obtain ⟨i1, i2, i3, i4, i5, i6, i7, i8, i9, i10⟩ := hi
  have hRA := tI_RA hi0
  have h1 : S.1 40 = _ := hst
  have hw := f1.w.trans hw0
  by_cases b0 : 0 < br
  · obtain ⟨Q, hQ⟩ : ∃ Q : Int → mj_S → Prop, Q = (fun (z : Int) (S' : mj_S) => (0 < (n, K, F, B, RA, RB, BA, br, la, rm, at_).2.2.2.2.2.2.2.1) ∨ (tEnd (n, K, F, B, RA, RB, BA, br, la, rm, at_) ≠ -1 ∧ z = tEnd (n, K, F, B, RA, RB, BA, br, la, rm, at_) ∧ psE S0 S' L L am hy sr tr rs fo) ∨ (tEnd (n, K, F, B, RA, RB, BA, br, la, rm, at_) = -1 ∧ z = 0 ∧ S' = S)) := ⟨_, rfl⟩
    rw [← hQ]
    have hq : ∀ z S', Q z S' := fun z S' => by rw [hQ]; exact Or.inl b0
    refine mj_Met.of (by decide) ⟨rfl, rfl⟩ rfl rfl rfl ?_
    refine mz_iconst d_Mo_atEnd_0 ?_
    refine mz_ist1 d_Mo_atEnd_1 (rfl) ?_
    have loop2 : ∀ (r j : Nat), j + r = n → mj_Ok Γ d M_Mo_atEnd 0 0 36 [.ref 40, .int (iZ j)] [] S (mj_I Q) := by
      intro r
      induction r with
      | zero =>
        intro j hj
        refine mj_iload_n d_Mo_atEnd_36 rfl ?_
        refine mj_aload_n d_Mo_atEnd_37 rfl ?_
        refine mj_get (ci := 9) (j := 19) d_Mo_atEnd_38 rfl w_Mo_167 (by decide) (by omega) (by assumption) rfl ?_
        refine mz_icmp_ge 78 d_Mo_atEnd_41 (by decide) (by omega) (by omega) (fun c_41 => ?_) (fun c_41 => ?_)
        · refine mz_iconst d_Mo_atEnd_78 ?_
          refine mz_iret d_Mo_atEnd_79 rfl (rfl) ?_
          exact hq _ _
        · omega
      | succ r ih =>
        intro j hj
        obtain ⟨k, k1, k2⟩ := i10 j (by omega)
        have hs := tJ_sum hi0 hj0 h4' (a := j) (by omega)
        have hv := mj_VAL_r (K j).toNat
        have h8 := i8 j (by omega)
        refine mj_iload_n d_Mo_atEnd_36 rfl ?_
        refine mj_aload_n d_Mo_atEnd_37 rfl ?_
        refine mj_get (ci := 9) (j := 19) d_Mo_atEnd_38 rfl w_Mo_167 (by decide) (by omega) (by assumption) rfl ?_
        refine mz_icmp_ge 78 d_Mo_atEnd_41 (by decide) (by omega) (by omega) (fun c_41 => ?_) (fun c_41 => ?_)
        · omega
        · refine mj_aload_n d_Mo_atEnd_44 rfl ?_
          refine mj_iload_n d_Mo_atEnd_45 rfl ?_
          refine mz_callV1i (ci := 9) d_Mo_atEnd_46 (m_Mo_sumOf (d := 0) hw hst h4 (by omega) i2) cw_Mo_sumOf lk_Mo_180 rfl rfl (by omega) (by assumption) (by omega) rfl (fun z_46 S_46 h_46 => ?_)
          obtain ⟨e46, rfl⟩ := h_46
          rw [e46]
          refine mj_aload_n d_Mo_atEnd_49 rfl ?_
          refine mj_get (ci := 9) (j := 20) d_Mo_atEnd_50 rfl w_Mo_46 (by decide) (by omega) (by assumption) rfl ?_
          refine mj_iload_n d_Mo_atEnd_53 rfl ?_
          refine mz_iald d_Mo_atEnd_54 (by omega) (by assumption) (rfl) (by omega) ?_
          rw [h3' j (by omega), k1]
          refine mz_callS1i d_Mo_atEnd_55 (m_Mo_valence (d := 0) (by omega)) cw_Mo_valence lk_Mo_114 (by omega) rfl (fun z_55 S_55 h_55 => ?_)
          obtain ⟨e55, rfl⟩ := h_55
          rw [e55]
          have hv2 := mj_VAL_r k
          refine mz_icmp_le 72 d_Mo_atEnd_58 (by decide) (by omega) (by omega) (fun c_58 => ?_) (fun c_58 => ?_)
          · refine mz_inc1 d_Mo_atEnd_72 (rfl) ?_
            refine mj_goto 36 d_Mo_atEnd_75 (by decide) ?_
            have w := ih (j + 1) (by omega)
            rw [show ((j + 1 : Nat) : Int) = (j : Int) + 1 by omega] at w
            exact w
          · refine mj_aload_n d_Mo_atEnd_61 rfl ?_
            refine mz_bipush d_Mo_atEnd_62 (by decide) ?_
            refine mj_aload_n d_Mo_atEnd_64 rfl ?_
            refine mj_get (ci := 9) (j := 1) d_Mo_atEnd_65 rfl w_Mo_88 (by decide) (by omega) (by assumption) rfl ?_
            refine mz_callV2i (ci := 9) d_Mo_atEnd_68 (m_Mo_fault (d := 0) hw hst) cw_Mo_fault lk_Mo_103 rfl rfl (by omega) (by assumption) (by omega) rfl (fun z_68 S_68 h_68 => ?_)
            refine mz_iret d_Mo_atEnd_71 rfl (rfl) ?_
            exact hq _ _
    have loop1 : ∀ (r j : Nat), j + r = 10 → mj_Ok Γ d M_Mo_atEnd 0 0 2 [.ref 40, .int (iZ j)] [] S (mj_I Q) := by
      intro r
      induction r with
      | zero =>
        intro j hj
        refine mj_iload_n d_Mo_atEnd_2 rfl ?_
        refine mz_bipush d_Mo_atEnd_3 (by decide) ?_
        refine mz_icmp_ge 34 d_Mo_atEnd_5 (by decide) (by omega) (by omega) (fun c_5 => ?_) (fun c_5 => ?_)
        · refine mz_iconst d_Mo_atEnd_34 ?_
          refine mz_ist1 d_Mo_atEnd_35 (rfl) ?_
          exact loop2 n 0 (by omega)
        · omega
      | succ r ih =>
        intro j hj
        have hr := hRA j (by omega)
        refine mj_iload_n d_Mo_atEnd_2 rfl ?_
        refine mz_bipush d_Mo_atEnd_3 (by decide) ?_
        refine mz_icmp_ge 34 d_Mo_atEnd_5 (by decide) (by omega) (by omega) (fun c_5 => ?_) (fun c_5 => ?_)
        · omega
        · refine mj_aload_n d_Mo_atEnd_8 rfl ?_
          refine mj_get (ci := 9) (j := 25) d_Mo_atEnd_9 rfl w_Mo_61 (by decide) (by omega) (by assumption) rfl ?_
          refine mj_iload_n d_Mo_atEnd_12 rfl ?_
          refine mz_iald d_Mo_atEnd_13 (by omega) (by assumption) (rfl) (by omega) ?_
          rw [h6' j (by omega)]
          refine mz_if_lt 28 d_Mo_atEnd_14 (by decide) (by omega) (fun c_14 => ?_) (fun c_14 => ?_)
          · refine mz_inc1 d_Mo_atEnd_28 (rfl) ?_
            refine mj_goto 2 d_Mo_atEnd_31 (by decide) ?_
            have w := ih (j + 1) (by omega)
            rw [show ((j + 1 : Nat) : Int) = (j : Int) + 1 by omega] at w
            exact w
          · refine mj_aload_n d_Mo_atEnd_17 rfl ?_
            refine mz_bipush d_Mo_atEnd_18 (by decide) ?_
            refine mj_aload_n d_Mo_atEnd_20 rfl ?_
            refine mj_get (ci := 9) (j := 1) d_Mo_atEnd_21 rfl w_Mo_88 (by decide) (by omega) (by assumption) rfl ?_
            refine mz_callV2i (ci := 9) d_Mo_atEnd_24 (m_Mo_fault (d := 0) hw hst) cw_Mo_fault lk_Mo_103 rfl rfl (by omega) (by assumption) (by omega) rfl (fun z_24 S_24 h_24 => ?_)
            refine mz_iret d_Mo_atEnd_27 rfl (rfl) ?_
            exact hq _ _
    exact loop1 9 1 (by omega)
  · have hEnd : tEnd (n, K, F, B, RA, RB, BA, br, la, rm, at_) = @ite _ (tOpenRing RA) (Classical.propDecidable _) (-7) (@ite _ (∃ j, j < n ∧ F j < 0) (Classical.propDecidable _) (-8) (-1)) := by
      show (if 0 < br then (-2 : Int) else _) = _
      rw [if_neg b0]
    obtain ⟨Q, hQ⟩ : ∃ Q : Int → mj_S → Prop, Q = (fun (z : Int) (S' : mj_S) => (0 < (n, K, F, B, RA, RB, BA, br, la, rm, at_).2.2.2.2.2.2.2.1) ∨ (tEnd (n, K, F, B, RA, RB, BA, br, la, rm, at_) ≠ -1 ∧ z = tEnd (n, K, F, B, RA, RB, BA, br, la, rm, at_) ∧ psE S0 S' L L am hy sr tr rs fo) ∨ (tEnd (n, K, F, B, RA, RB, BA, br, la, rm, at_) = -1 ∧ z = 0 ∧ S' = S)) := ⟨_, rfl⟩
    rw [← hQ]
    have bad : ∀ (z : Int) (S' : mj_S), tEnd (n, K, F, B, RA, RB, BA, br, la, rm, at_) = z → z ≠ -1 → mj_fr S S' [40] → mo_st S' 0 L L am hy sr tr rs fo n → Q z S' := by
      intro z S' h1 h2 h3 h4
      rw [hQ]
      refine Or.inr (Or.inl ⟨by rw [h1]; exact h2, h1.symm, f1.tr h3 (by simp) (by simp), ⟨_, h4⟩, fun o ho o1 o2 => ?_⟩)
      obtain ⟨A, hA⟩ := hga o ho o1 o2
      exact ⟨A, h3.at hA (by simp; omega)⟩
    refine mj_Met.of (by decide) ⟨rfl, rfl⟩ rfl rfl rfl ?_
    refine mz_iconst d_Mo_atEnd_0 ?_
    refine mz_ist1 d_Mo_atEnd_1 (rfl) ?_
    have loop2 : ¬ tOpenRing RA → ∀ (r j : Nat), j + r = n → (∀ i, i < j → ¬ F i < 0) → mj_Ok Γ d M_Mo_atEnd 0 0 36 [.ref 40, .int (iZ j)] [] S (mj_I Q) := by
      intro hno r
      rw [if_neg hno] at hEnd
      induction r with
      | zero =>
        intro j hj hF
        have : j = n := by omega
        subst this
        refine mj_iload_n d_Mo_atEnd_36 rfl ?_
        refine mj_aload_n d_Mo_atEnd_37 rfl ?_
        refine mj_get (ci := 9) (j := 19) d_Mo_atEnd_38 rfl w_Mo_167 (by decide) (by omega) (by assumption) rfl ?_
        refine mz_icmp_ge 78 d_Mo_atEnd_41 (by decide) (by omega) (by omega) (fun c_41 => ?_) (fun c_41 => ?_)
        · refine mz_iconst d_Mo_atEnd_78 ?_
          refine mz_iret d_Mo_atEnd_79 rfl (rfl) ?_
          rw [hQ]
          refine Or.inr (Or.inr ⟨?_, rfl, rfl⟩)
          rw [hEnd, if_neg]
          intro ⟨i, q1, q2⟩
          exact hF i q1 q2
        · omega
      | succ r ih =>
        intro j hj hF
        obtain ⟨k, k1, k2⟩ := i10 j (by omega)
        have hs := tJ_sum hi0 hj0 h4' (a := j) (by omega)
        rw [k1, Int.toNat_natCast] at hs
        have hv := mj_VAL_r k
        have h8 := i8 j (by omega)
        refine mj_iload_n d_Mo_atEnd_36 rfl ?_
        refine mj_aload_n d_Mo_atEnd_37 rfl ?_
        refine mj_get (ci := 9) (j := 19) d_Mo_atEnd_38 rfl w_Mo_167 (by decide) (by omega) (by assumption) rfl ?_
        refine mz_icmp_ge 78 d_Mo_atEnd_41 (by decide) (by omega) (by omega) (fun c_41 => ?_) (fun c_41 => ?_)
        · omega
        · refine mj_aload_n d_Mo_atEnd_44 rfl ?_
          refine mj_iload_n d_Mo_atEnd_45 rfl ?_
          refine mz_callV1i (ci := 9) d_Mo_atEnd_46 (m_Mo_sumOf (d := 0) hw hst h4 (by omega) i2) cw_Mo_sumOf lk_Mo_180 rfl rfl (by omega) (by assumption) (by omega) rfl (fun z_46 S_46 h_46 => ?_)
          obtain ⟨e46, rfl⟩ := h_46
          rw [e46]
          refine mj_aload_n d_Mo_atEnd_49 rfl ?_
          refine mj_get (ci := 9) (j := 20) d_Mo_atEnd_50 rfl w_Mo_46 (by decide) (by omega) (by assumption) rfl ?_
          refine mj_iload_n d_Mo_atEnd_53 rfl ?_
          refine mz_iald d_Mo_atEnd_54 (by omega) (by assumption) (rfl) (by omega) ?_
          rw [h3' j (by omega), k1]
          refine mz_callS1i d_Mo_atEnd_55 (m_Mo_valence (d := 0) (by omega)) cw_Mo_valence lk_Mo_114 (by omega) rfl (fun z_55 S_55 h_55 => ?_)
          obtain ⟨e55, rfl⟩ := h_55
          rw [e55]
          refine mz_icmp_le 72 d_Mo_atEnd_58 (by decide) (by omega) (by omega) (fun c_58 => ?_) (fun c_58 => ?_)
          · refine mz_inc1 d_Mo_atEnd_72 (rfl) ?_
            refine mj_goto 36 d_Mo_atEnd_75 (by decide) ?_
            have w := ih (j + 1) (by omega) (fun i hi => by
              by_cases e : i = j
              · subst e; omega
              · exact hF i (by omega))
            rw [show ((j + 1 : Nat) : Int) = (j : Int) + 1 by omega] at w
            exact w
          · refine mj_aload_n d_Mo_atEnd_61 rfl ?_
            refine mz_bipush d_Mo_atEnd_62 (by decide) ?_
            refine mj_aload_n d_Mo_atEnd_64 rfl ?_
            refine mj_get (ci := 9) (j := 1) d_Mo_atEnd_65 rfl w_Mo_88 (by decide) (by omega) (by assumption) rfl ?_
            refine mz_callV2i (ci := 9) d_Mo_atEnd_68 (m_Mo_fault (d := 0) hw hst) cw_Mo_fault lk_Mo_103 rfl rfl (by omega) (by assumption) (by omega) rfl (fun z_68 S_68 h_68 => ?_)
            obtain ⟨q1, rfl, q3⟩ := h_68
            refine mz_iret d_Mo_atEnd_71 rfl (rfl) ?_
            exact bad _ _ (by rw [hEnd, if_pos ⟨j, by omega, by omega⟩]) (by decide) q1 q3
    have loop1 : ∀ (r j : Nat), j + r = 10 → 1 ≤ j → (∀ i, 1 ≤ i → i < j → RA i = -1) → mj_Ok Γ d M_Mo_atEnd 0 0 2 [.ref 40, .int (iZ j)] [] S (mj_I Q) := by
      intro r
      induction r with
      | zero =>
        intro j hj hj1 hR
        have : j = 10 := by omega
        subst this
        refine mj_iload_n d_Mo_atEnd_2 rfl ?_
        refine mz_bipush d_Mo_atEnd_3 (by decide) ?_
        refine mz_icmp_ge 34 d_Mo_atEnd_5 (by decide) (by omega) (by omega) (fun c_5 => ?_) (fun c_5 => ?_)
        · refine mz_iconst d_Mo_atEnd_34 ?_
          refine mz_ist1 d_Mo_atEnd_35 (rfl) ?_
          refine loop2 ?_ n 0 (by omega) (fun i hi => absurd hi (Nat.not_lt_zero i))
          intro ⟨i, q1, q2, q3⟩
          exact q3 (hR i q1 (by omega))
        · omega
      | succ r ih =>
        intro j hj hj1 hR
        have hr := hRA j (by omega)
        refine mj_iload_n d_Mo_atEnd_2 rfl ?_
        refine mz_bipush d_Mo_atEnd_3 (by decide) ?_
        refine mz_icmp_ge 34 d_Mo_atEnd_5 (by decide) (by omega) (by omega) (fun c_5 => ?_) (fun c_5 => ?_)
        · omega
        · refine mj_aload_n d_Mo_atEnd_8 rfl ?_
          refine mj_get (ci := 9) (j := 25) d_Mo_atEnd_9 rfl w_Mo_61 (by decide) (by omega) (by assumption) rfl ?_
          refine mj_iload_n d_Mo_atEnd_12 rfl ?_
          refine mz_iald d_Mo_atEnd_13 (by omega) (by assumption) (rfl) (by omega) ?_
          rw [h6' j (by omega)]
          refine mz_if_lt 28 d_Mo_atEnd_14 (by decide) (by omega) (fun c_14 => ?_) (fun c_14 => ?_)
          · refine mz_inc1 d_Mo_atEnd_28 (rfl) ?_
            refine mj_goto 2 d_Mo_atEnd_31 (by decide) ?_
            have w := ih (j + 1) (by omega) (by omega) (fun i i1 i2 => by
              by_cases e : i = j
              · subst e; omega
              · exact hR i i1 (by omega))
            rw [show ((j + 1 : Nat) : Int) = (j : Int) + 1 by omega] at w
            exact w
          · refine mj_aload_n d_Mo_atEnd_17 rfl ?_
            refine mz_bipush d_Mo_atEnd_18 (by decide) ?_
            refine mj_aload_n d_Mo_atEnd_20 rfl ?_
            refine mj_get (ci := 9) (j := 1) d_Mo_atEnd_21 rfl w_Mo_88 (by decide) (by omega) (by assumption) rfl ?_
            refine mz_callV2i (ci := 9) d_Mo_atEnd_24 (m_Mo_fault (d := 0) hw hst) cw_Mo_fault lk_Mo_103 rfl rfl (by omega) (by assumption) (by omega) rfl (fun z_24 S_24 h_24 => ?_)
            obtain ⟨q1, rfl, q3⟩ := h_24
            refine mz_iret d_Mo_atEnd_27 rfl (rfl) ?_
            exact bad _ _ (by rw [hEnd, if_pos ⟨j, hj1, by omega, by omega⟩]) (by decide) q1 q3
    exact loop1 9 1 (by omega) (by omega) (fun i i1 i2 => by omega)
end PS4
