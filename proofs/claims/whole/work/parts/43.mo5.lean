/-! the reference: is all one, and what is kept -/
def bt2 (p : Nat) : Nat := 1 * 2 ^ up6 p ||| 1 * 2 ^ lo6 p
def rcS (cd : Nat → Nat) (c R : Nat) : Nat := if 0 < cd c ∧ R &&& bt2 c ≠ 0 then R ||| bt2 c else R
def rcP (cd : Nat → Nat) (P R : Nat) : Nat := chR (rcS cd) P 0 R
def rcF (cd : Nat → Nat) (P : Nat) : Nat := chR (fun _ R => rcP cd P R) 6 0 1
theorem bt2_lt : ∀ p, p < 15 → bt2 p < 64 := by decide
theorem rcS_lt {cd : Nat → Nat} {c R : Nat} (hc : c < 15) (hR : R < 64) : rcS cd c R < 64 := by
  unfold rcS
  split
  · exact Nat.or_lt_two_pow (n := 6) hR (bt2_lt c hc)
  · exact hR
theorem gd_last (l : List Nat) (x : Nat) : (l ++ [x]).getD l.length 0 = x := by
  rw [List.getD_eq_getElem?_getD, List.getElem?_append_right (Nat.le_refl _), Nat.sub_self]
  rfl
theorem gd_app (l : List Nat) (x : Nat) {i : Nat} (h : i < l.length) : (l ++ [x]).getD i 0 = l.getD i 0 := by
  rw [List.getD_eq_getElem?_getD, List.getElem?_append_left h, List.getD_eq_getElem?_getD]
/-- the fresh rows hold the codes of a list -/
def frL (T : Nat → Int) (acc : List Nat) : Prop := ∀ i, i < acc.length → ∀ p, p < 15 → T (15 * i + p) = (dg (acc.getD i 0) p : Nat)
section MO5
variable {Γ : mj_G} {d A P : Nat} {S : mj_S} {rf sz wr am hy sr tr rs fo sg : Int} {Cd : Nat → Int} {cd : Nat → Nat}
theorem m_Mo_isOne (hw : S.2.1 = 65) (h : mo_st S rf sz wr am hy sr A rs fo sg) (h42 : S.1 45 = .inl (0, 15, .inl (mj_z Cd))) (hA : A ≤ 6) (hP : P ≤ 15) (hC : ∀ j, j < P → Cd j = cd j ∧ cd j < 4) (hd : 2 ≤ d) :
    mj_Met Γ d y_Mo_isOne M_Mo_isOne [.ref 40, .int (iZ P)] S 0 0 (mj_I fun z S' => S' = S ∧ z = if rcF cd P = 2 ^ A - 1 then 1 else 0) := by
  have h1 : S.1 40 = _ := h
  have tb : ∀ c, c < 15 → 1 * 2 ^ up6 c < 2147483648 ∧ 1 * 2 ^ lo6 c < 2147483648 ∧ up6 c < 32 ∧ lo6 c < 32 := by decide
  have tA : ∀ a, a < 7 → 1 * 2 ^ a < 2147483648 ∧ 1 ≤ 2 ^ a ∧ 2 ^ a ≤ 64 := by decide
  refine mj_Met.of (by decide) ⟨rfl, rfl⟩ rfl rfl rfl ?_
  refine mz_iconst d_Mo_isOne_0 ?_
  refine mz_ist2 d_Mo_isOne_1 (rfl) ?_
  refine mz_iconst d_Mo_isOne_2 ?_
  refine mz_ist3 d_Mo_isOne_3 (rfl) ?_
  have outer : ∀ (q i R : Nat) (x4 x5 : Value), c1 x4 → c1 x5 → i + q = 6 → R < 64 → chR (fun _ R => rcP cd P R) q i R = rcF cd P → mj_Ok Γ d M_Mo_isOne 0 0 4 [.ref 40, .int (iZ P), .int (iZ R), .int (iZ i), x4, x5] [] S (mj_I fun z S' => S' = S ∧ z = if rcF cd P = 2 ^ A - 1 then 1 else 0) := by
    intro q
    induction q with
    | zero =>
      intro i R x4 x5 g4 g5 hi hR he
      have : i = 6 := by omega
      subst this
      have he : R = rcF cd P := he
      obtain ⟨t1, t2, t3⟩ := tA A (by omega)
      refine mj_iload_n d_Mo_isOne_4 rfl ?_
      refine mz_bipush d_Mo_isOne_5 (by decide) ?_
      refine mz_icmp_ge 74 d_Mo_isOne_7 (by decide) (by omega) (by omega) (fun c_7 => ?_) (fun c_7 => ?_)
      · refine mj_iload_n d_Mo_isOne_74 rfl ?_
        refine mz_iconst d_Mo_isOne_75 ?_
        refine mj_aload_n d_Mo_isOne_76 rfl ?_
        refine mj_get (ci := 9) (j := 9) d_Mo_isOne_77 rfl w_Mo_117 (by decide) (by omega) (by assumption) rfl ?_
        refine mz_ishl (x := 1) (s := A) d_Mo_isOne_80 (rfl) (rfl) (by omega) (t1) ?_
        refine mz_iconst d_Mo_isOne_81 ?_
        refine mz_isub d_Mo_isOne_82 ?_
        refine mz_icmp_ne 90 d_Mo_isOne_83 (by decide) (by omega) (by omega) (fun c_83 => ?_) (fun c_83 => ?_)
        · refine mz_iconst d_Mo_isOne_90 ?_
          refine mz_iret d_Mo_isOne_91 rfl (rfl) ?_
          exact ⟨rfl, by rw [if_neg (by rw [← he]; omega)]⟩
        · refine mz_iconst d_Mo_isOne_86 ?_
          refine mj_goto 91 d_Mo_isOne_87 (by decide) ?_
          refine mz_iret d_Mo_isOne_91 rfl (rfl) ?_
          exact ⟨rfl, by rw [if_pos (by rw [← he]; omega)]⟩
      · omega
    | succ q ih =>
      intro i R x4 x5 g4 g5 hi hR he
      have inner : ∀ (q2 c R2 : Nat) (x5 : Value), c1 x5 → c + q2 = P → R2 < 64 → chR (rcS cd) q2 c R2 = rcP cd P R → mj_Ok Γ d M_Mo_isOne 0 0 13 [.ref 40, .int (iZ P), .int (iZ R2), .int (iZ i), .int (iZ c), x5] [] S (mj_I fun z S' => S' = S ∧ z = if rcF cd P = 2 ^ A - 1 then 1 else 0) := by
        intro q2
        induction q2 with
        | zero =>
          intro c R2 x5 g5 hc hR2 he2
          have : c = P := by omega
          subst this
          have he2 : R2 = rcP cd c R := he2
          refine mj_iload d_Mo_isOne_13 rfl ?_
          refine mj_iload_n d_Mo_isOne_15 rfl ?_
          refine mz_icmp_ge 68 d_Mo_isOne_16 (by decide) (by omega) (by omega) (fun c_16 => ?_) (fun c_16 => ?_)
          · refine mz_inc3 d_Mo_isOne_68 (by unfold mj_c1; simp only [List.all_cons, g5]; rfl) ?_
            refine mj_goto 4 d_Mo_isOne_71 (by decide) ?_
            have w := ih (i + 1) R2 (.int (iZ c)) x5 rfl g5 (by omega) hR2 (by rw [← he, chR, he2])
            rw [show ((i + 1 : Nat) : Int) = (i : Int) + 1 by omega] at w
            exact w
          · omega
        | succ q2 ih2 =>
          intro c R2 x5 g5 hc hR2 he2
          have hc15 : c < 15 := by omega
          obtain ⟨t1, t2, t3, t4⟩ := tb c hc15
          obtain ⟨u1, u2, u3⟩ := ul6 c hc15
          have hCc := hC c (by omega)
          have hb2 := bt2_lt c hc15
          have hand : R2 &&& bt2 c < 64 := Nat.lt_of_le_of_lt Nat.and_le_left hR2
          have hl := rcS_lt (cd := cd) hc15 hR2
          have next : ∀ y5, c1 y5 → mj_Ok Γ d M_Mo_isOne 0 0 13 [.ref 40, .int (iZ P), .int (iZ (rcS cd c R2 : Nat)), .int (iZ i), .int (iZ ((c : Int) + 1)), y5] [] S (mj_I fun z S' => S' = S ∧ z = if rcF cd P = 2 ^ A - 1 then 1 else 0) := by
            intro y5 q5
            have w := ih2 (c + 1) (rcS cd c R2) y5 q5 (by omega) hl (by rw [← he2, chR])
            rw [show ((c + 1 : Nat) : Int) = (c : Int) + 1 by omega] at w
            exact w
          unfold rcS at next
          refine mj_iload d_Mo_isOne_13 rfl ?_
          refine mj_iload_n d_Mo_isOne_15 rfl ?_
          refine mz_icmp_ge 68 d_Mo_isOne_16 (by decide) (by omega) (by omega) (fun c_16 => ?_) (fun c_16 => ?_)
          · omega
          · refine mz_iconst d_Mo_isOne_19 ?_
            refine mj_iload d_Mo_isOne_20 rfl ?_
            refine mz_callS1i d_Mo_isOne_22 (m_Mo_upper (d := 0) u2 u1 (by rw [u3])) cw_Mo_upper lk_Mo_138 (by omega) rfl (fun z_22 S_22 h_22 => ?_)
            have h_22 : S_22 = S ∧ z_22 = _ := h_22
            obtain ⟨e22, rfl⟩ := h_22
            rw [e22]
            refine mz_ishl (x := 1) (s := up6 c) d_Mo_isOne_25 (rfl) (rfl) (t3) (t1) ?_
            refine mz_iconst d_Mo_isOne_26 ?_
            refine mj_iload d_Mo_isOne_27 rfl ?_
            refine mz_callS1i d_Mo_isOne_29 (m_Mo_lower (d := 1) u2 u1 (by rw [u3]) (by omega)) cw_Mo_lower lk_Mo_141 (by omega) rfl (fun z_29 S_29 h_29 => ?_)
            have h_29 : S_29 = S ∧ z_29 = _ := h_29
            obtain ⟨e29, rfl⟩ := h_29
            rw [e29]
            refine mz_ishl (x := 1) (s := lo6 c) d_Mo_isOne_32 (rfl) (rfl) (t4) (t2) ?_
            refine mz_ior (x := 1 * 2 ^ up6 c) (y := 1 * 2 ^ lo6 c) d_Mo_isOne_33 (rfl) (rfl) ?_
            refine mz_ist5 d_Mo_isOne_34 (by unfold mj_c1; simp only [List.all_cons, g5]; rfl) ?_
            rw [show (1 * 2 ^ up6 c ||| 1 * 2 ^ lo6 c) = bt2 c from rfl]
            refine mj_aload_n d_Mo_isOne_36 rfl ?_
            refine mj_get (ci := 9) (j := 11) d_Mo_isOne_37 rfl w_Mo_27 (by decide) (by omega) (by assumption) rfl ?_
            refine mj_iload d_Mo_isOne_40 rfl ?_
            refine mz_iald (j := c) d_Mo_isOne_42 (by omega) (by assumption) (by omega) (by omega) ?_
            rw [hCc.1]
            refine mz_if_le 60 d_Mo_isOne_43 (by decide) (by omega) (fun c_43 => ?_) (fun c_43 => ?_)
            · refine mj_iload_n d_Mo_isOne_60 rfl ?_
              refine mz_ist2 d_Mo_isOne_61 (rfl) ?_
              refine mz_inc4 d_Mo_isOne_62 (rfl) ?_
              refine mj_goto 13 d_Mo_isOne_65 (by decide) ?_
              rw [if_neg (by omega)] at next
              exact next _ rfl
            · refine mj_iload_n d_Mo_isOne_46 rfl ?_
              refine mj_iload d_Mo_isOne_47 rfl ?_
              refine mz_iandN (x := R2) (y := bt2 c) d_Mo_isOne_49 (rfl) (rfl) ?_
              refine mz_if_eq 60 d_Mo_isOne_50 (by decide) (by omega) (fun c_50 => ?_) (fun c_50 => ?_)
              · refine mj_iload_n d_Mo_isOne_60 rfl ?_
                refine mz_ist2 d_Mo_isOne_61 (rfl) ?_
                refine mz_inc4 d_Mo_isOne_62 (rfl) ?_
                refine mj_goto 13 d_Mo_isOne_65 (by decide) ?_
                rw [if_neg (by omega)] at next
                exact next _ rfl
              · refine mj_iload_n d_Mo_isOne_53 rfl ?_
                refine mj_iload d_Mo_isOne_54 rfl ?_
                refine mz_ior (x := R2) (y := bt2 c) d_Mo_isOne_56 (rfl) (rfl) ?_
                refine mj_goto 61 d_Mo_isOne_57 (by decide) ?_
                refine mz_ist2 d_Mo_isOne_61 (rfl) ?_
                refine mz_inc4 d_Mo_isOne_62 (rfl) ?_
                refine mj_goto 13 d_Mo_isOne_65 (by decide) ?_
                rw [if_pos (by omega)] at next
                exact next _ rfl
      refine mj_iload_n d_Mo_isOne_4 rfl ?_
      refine mz_bipush d_Mo_isOne_5 (by decide) ?_
      refine mz_icmp_ge 74 d_Mo_isOne_7 (by decide) (by omega) (by omega) (fun c_7 => ?_) (fun c_7 => ?_)
      · omega
      · refine mz_iconst d_Mo_isOne_10 ?_
        refine mz_ist4 d_Mo_isOne_11 (by unfold mj_c1; simp only [List.all_cons, g4, g5]; rfl) ?_
        exact inner P 0 R x5 g5 (by omega) hR rfl
  exact outer 6 0 1 _ _ rfl rfl (by omega) (by decide) rfl
theorem m_Mo_keep {Fr : Nat → Int} {acc : List Nat} (hw : S.2.1 = 65) (h : mo_st S rf sz wr am hy sr A rs acc.length sg) (h42 : S.1 45 = .inl (0, 15, .inl (mj_z Cd))) (h45 : S.1 48 = .inl (0, 7515, .inl (mj_z Fr))) (hA : A ≤ 6) (hP : P ≤ 15) (hC : ∀ j, j < P → Cd j = cd j ∧ cd j < 4) (hrs : iR rs) (hl : acc.length ≤ 500) (hF : frL Fr acc) (hd : 3 ≤ d) :
    mj_Met Γ d y_Mo_keep M_Mo_keep [.ref 40, .int (iZ P)] S 0 0 (mj_V fun S' => mj_fr S S' [40, 48] ∧ mo_st S' rf sz wr am hy sr A rs (if rs ≤ 0 ∧ rcF cd P = 2 ^ A - 1 then acc ++ [pk cd P] else acc).length sg ∧ ∃ Fr', S'.1 48 = .inl (0, 7515, .inl (mj_z Fr')) ∧ frL Fr' (if rs ≤ 0 ∧ rcF cd P = 2 ^ A - 1 then acc ++ [pk cd P] else acc)) := by
  have h1 : S.1 40 = _ := h
  refine mj_Met.of (by decide) ⟨rfl, rfl⟩ rfl rfl rfl ?_
  refine mj_aload_n d_Mo_keep_0 rfl ?_
  refine mj_get (ci := 9) (j := 13) d_Mo_keep_1 rfl w_Mo_123 (by decide) (by omega) (by assumption) rfl ?_
  refine mz_if_gt 15 d_Mo_keep_4 (by decide) (by omega) (fun c_4 => ?_) (fun c_4 => ?_)
  · refine mz_vret d_Mo_keep_15 rfl ?_
    rw [if_neg (by omega)]
    exact ⟨mj_fr.rf _ _, h, Fr, h45, hF⟩
  · refine mj_aload_n d_Mo_keep_7 rfl ?_
    refine mj_iload_n d_Mo_keep_8 rfl ?_
    refine mz_callV1i (ci := 9) d_Mo_keep_9 (m_Mo_isOne (d := 2) hw h h42 hA hP hC (by omega)) cw_Mo_isOne lk_Mo_158 rfl rfl (by omega) (by assumption) (by omega) rfl (fun z_9 S_9 h_9 => ?_)
    obtain ⟨rfl, hz⟩ := h_9
    by_cases q : rcF cd P = 2 ^ A - 1
    · rw [if_pos q] at hz
      subst hz
      rw [if_pos ⟨by omega, q⟩]
      refine mz_if_ne 16 d_Mo_keep_12 (by decide) (by omega) (fun c_12 => ?_) (fun c_12 => ?_)
      · refine mz_iconst d_Mo_keep_16 ?_
        refine mz_ist2 d_Mo_keep_17 (rfl) ?_
        have loop : ∀ (r c : Nat) (S2 : mj_S) (F2 : Nat → Int), c + r = 15 → mj_fr S_9 S2 [48] → S2.1 48 = .inl (0, 7515, .inl (mj_z F2)) → (∀ j, j < 15 * acc.length → F2 j = Fr j) → (∀ p, p < c → F2 (15 * acc.length + p) = if p < P then Cd p else 0) →
            mj_Ok Γ d M_Mo_keep 0 0 18 [.ref 40, .int (iZ P), .int (iZ c)] [] S2 (mj_V fun S' => mj_fr S_9 S' [40, 48] ∧ mo_st S' rf sz wr am hy sr A rs (acc ++ [pk cd P]).length sg ∧ ∃ Fr', S'.1 48 = .inl (0, 7515, .inl (mj_z Fr')) ∧ frL Fr' (acc ++ [pk cd P])) := by
          intro r
          induction r with
          | zero =>
            intro c S2 F2 hc f2 e2 a2 b2
            have : c = 15 := by omega
            subst this
            have h12 := f2.at h1 (by simp)
            have hw2 := f2.w.trans hw
            refine mj_iload_n d_Mo_keep_18 rfl ?_
            refine mz_bipush d_Mo_keep_19 (by decide) ?_
            refine mz_icmp_ge 59 d_Mo_keep_21 (by decide) (by omega) (by omega) (fun c_21 => ?_) (fun c_21 => ?_)
            · refine mj_aload_n d_Mo_keep_59 rfl ?_
              refine mj_dup d_Mo_keep_60 rfl ?_
              refine mj_get (ci := 9) (j := 15) d_Mo_keep_61 rfl w_Mo_120 (by decide) (by omega) (by assumption) rfl ?_
              refine mz_iconst d_Mo_keep_64 ?_
              refine mz_iadd d_Mo_keep_65 ?_
              refine mz_put (ci := 9) (j := 15) d_Mo_keep_66 rfl w_Mo_120 (by decide) rfl (by omega) (by assumption) (Nat.le_of_ble_eq_true rfl) (mj_fit_int _) rfl (fun S_66 w_66 e_66 f_66 => ?_)
              refine mz_vret d_Mo_keep_69 rfl ?_
              refine ⟨f2.tr f_66 (by simp) (by simp), ?_, F2, f_66.at e2 (by simp), fun i hi p hp => ?_⟩
              · rw [List.length_append, show (([pk cd P] : List Nat).length) = 1 from rfl]
                exact e_66
              · rw [List.length_append, show (([pk cd P] : List Nat).length) = 1 from rfl] at hi
                by_cases e : i = acc.length
                · subst e
                  rw [b2 p hp, gd_last, dg_pk hP hp (fun j hj => (hC j hj).2)]
                  split
                  · rename_i e2; exact (hC p e2).1
                  · rfl
                · rw [a2 (15 * i + p) (by omega), gd_app _ _ (by omega)]
                  exact hF i (by omega) p hp
            · omega
          | succ r ih =>
            intro c S2 F2 hc f2 e2 a2 b2
            have h12 := f2.at h1 (by simp)
            have h422 := f2.at h42 (by simp)
            have hw2 := f2.w.trans hw
            have next : ∀ (S3 : mj_S) (v : Int), (v = if c < P then Cd c else 0) → mj_fr S2 S3 [48] → S3.1 48 = .inl (0, 7515, .inl (mj_z (va_up F2 (15 * acc.length + c) v))) → mj_Ok Γ d M_Mo_keep 0 0 18 [.ref 40, .int (iZ P), .int (iZ ((c : Int) + 1))] [] S3 (mj_V fun S' => mj_fr S_9 S' [40, 48] ∧ mo_st S' rf sz wr am hy sr A rs (acc ++ [pk cd P]).length sg ∧ ∃ Fr', S'.1 48 = .inl (0, 7515, .inl (mj_z Fr')) ∧ frL Fr' (acc ++ [pk cd P])) := by
              intro S3 v hv f3 e3
              have w := ih (c + 1) S3 _ (by omega) (f2.tr f3 (by simp) (by simp)) e3 (fun j hj => by rw [va_up_ne _ _ (by omega)]; exact a2 j hj) (fun p hp => by
                by_cases e : p = c
                · subst e; rw [va_up_self, hv]
                · rw [va_up_ne _ _ (by omega)]; exact b2 p (by omega))
              rw [show ((c + 1 : Nat) : Int) = (c : Int) + 1 by omega] at w
              exact w
            refine mj_iload_n d_Mo_keep_18 rfl ?_
            refine mz_bipush d_Mo_keep_19 (by decide) ?_
            refine mz_icmp_ge 59 d_Mo_keep_21 (by decide) (by omega) (by omega) (fun c_21 => ?_) (fun c_21 => ?_)
            · omega
            · refine mj_aload_n d_Mo_keep_24 rfl ?_
              refine mj_get (ci := 9) (j := 16) d_Mo_keep_25 rfl w_Mo_36 (by decide) (by omega) (by assumption) rfl ?_
              refine mz_bipush d_Mo_keep_28 (by decide) ?_
              refine mj_aload_n d_Mo_keep_30 rfl ?_
              refine mj_get (ci := 9) (j := 15) d_Mo_keep_31 rfl w_Mo_120 (by decide) (by omega) (by assumption) rfl ?_
              refine mz_imul d_Mo_keep_34 ?_
              refine mj_iload_n d_Mo_keep_35 rfl ?_
              refine mz_iadd d_Mo_keep_36 ?_
              refine mj_iload_n d_Mo_keep_37 rfl ?_
              refine mj_iload_n d_Mo_keep_38 rfl ?_
              refine mz_icmp_ge 51 d_Mo_keep_39 (by decide) (by omega) (by omega) (fun c_39 => ?_) (fun c_39 => ?_)
              · refine mz_iconst d_Mo_keep_51 ?_
                refine mz_iast (j := 15 * acc.length + c) d_Mo_keep_52 (by omega) (by assumption) (by omega) (by omega) (fun S_52 w_52 e_52 f_52 => ?_)
                refine mz_inc2 d_Mo_keep_53 (rfl) ?_
                refine mj_goto 18 d_Mo_keep_56 (by decide) ?_
                exact next _ 0 (by rw [if_neg (by omega)]) f_52 e_52
              · refine mj_aload_n d_Mo_keep_42 rfl ?_
                refine mj_get (ci := 9) (j := 11) d_Mo_keep_43 rfl w_Mo_27 (by decide) (by omega) (by assumption) rfl ?_
                refine mj_iload_n d_Mo_keep_46 rfl ?_
                refine mz_iald (j := c) d_Mo_keep_47 (by omega) (by assumption) (by omega) (by omega) ?_
                refine mj_goto 52 d_Mo_keep_48 (by decide) ?_
                refine mz_iast (j := 15 * acc.length + c) d_Mo_keep_52 (by omega) (by assumption) (by omega) (by omega) (fun S_52 w_52 e_52 f_52 => ?_)
                refine mz_inc2 d_Mo_keep_53 (rfl) ?_
                refine mj_goto 18 d_Mo_keep_56 (by decide) ?_
                exact next _ _ (by rw [if_pos (by omega)]) f_52 e_52
        exact loop 15 0 S_9 Fr (by omega) (mj_fr.rf _ _) h45 (fun j hj => rfl) (fun p hp => absurd hp (Nat.not_lt_zero p))
      · omega
    · rw [if_neg q] at hz
      subst hz
      rw [if_neg (fun x => q x.2)]
      refine mz_if_ne 16 d_Mo_keep_12 (by decide) (by omega) (fun c_12 => ?_) (fun c_12 => ?_)
      · omega
      · refine mz_vret d_Mo_keep_15 rfl ?_
        exact ⟨mj_fr.rf _ _, h, Fr, h45, hF⟩
end MO5
