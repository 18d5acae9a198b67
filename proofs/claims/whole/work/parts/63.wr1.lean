/-! the reference: putAtom -/
section WR1
variable {Γ : mj_G} {d n i a : Nat} {S : mj_S} {rf wr hy sr tr rs fo sg : Int} {T B RG El : Nat → Int} {KM : Nat → Nat} {p : Nat × (Nat → Int)}
theorem m_Mo_putAtom (hw : S.2.1 = 65) (h : mo_lp S p rf wr n hy sr tr rs fo sg) (h39 : S.1 42 = .inl (0, 6, .inl (mj_z El))) (hK : ∀ j, j < n → El j = KM j ∧ KM j < 9) (h40 : S.1 43 = .inl (0, 7500, .inl (mj_z T))) (h56 : S.1 59 = .inl (0, 36, .inl (mj_z RG))) (hi : i < 500) (hn : n ≤ 6) (ha : a < n) (hT : ∀ x y, x < n → y < n → mo_bd T i x y = B (x * 6 + y)) (hB : ∀ j, j < 36 → 0 ≤ B j ∧ B j ≤ 3) (hR : ∀ x y, x < n → y < n → 0 ≤ RG (x * 6 + y) ∧ RG (x * 6 + y) ≤ 1000) (hRB : ∀ x y, x < n → y < n → RG (x * 6 + y) ≠ 0 → 0 < B (x * 6 + y)) (hs : mj_sum (fun x => B (a * 6 + x)) n ≤ 4) (hL : p.1 + 6 ≤ 60) (hd : 2 ≤ d) :
    mj_Met Γ d y_Mo_putAtom M_Mo_putAtom [.ref 40, .int (iZ i), .int (iZ a)] S 0 0 (mj_V fun S' => mj_fr S S' [40, 41] ∧ mo_lp S' (mpI n B RG a (lnE p (KM a))) rf wr n hy sr tr rs fo sg ∧ (mpI n B RG a (lnE p (KM a))).1 ≤ p.1 + 6) := by
  have h1 : S.1 40 = _ := h.1
  obtain ⟨Q, hQ⟩ : ∃ Q : mj_S → Prop, Q = (fun S' => mj_fr S S' [40, 41] ∧ mo_lp S' (mpI n B RG a (lnE p (KM a))) rf wr n hy sr tr rs fo sg ∧ (mpI n B RG a (lnE p (KM a))).1 ≤ p.1 + 6) := ⟨_, rfl⟩
  rw [← hQ]
  have ka := hK a ha
  have hBa : ∀ x, x < n → 0 ≤ B (a * 6 + x) := fun x hx => (hB _ (by omega)).1
  have le2 := lnE_le (p := p) (k := KM a)
  refine mj_Met.of (by decide) ⟨rfl, rfl⟩ rfl rfl rfl ?_
  refine mj_aload_n d_Mo_putAtom_0 rfl ?_
  refine mj_aload_n d_Mo_putAtom_1 rfl ?_
  refine mj_get (ci := 9) (j := 6) d_Mo_putAtom_2 rfl w_Mo_17 (by decide) (by omega) (by assumption) rfl ?_
  refine mj_iload_n d_Mo_putAtom_5 rfl ?_
  refine mz_iald (j := a) d_Mo_putAtom_6 (by omega) (by assumption) (by omega) (by omega) ?_
  rw [ka.1]
  refine mz_callV1v (ci := 9) d_Mo_putAtom_7 (m_Mo_putSign (d := 1) hw h ka.2 (by omega) (by omega)) cw_Mo_putSign lk_Mo_216 rfl rfl (by omega) (by assumption) (by omega) rfl (fun S_7 h_7 => ?_)
  obtain ⟨g1, g2⟩ := h_7
  refine mz_iconst d_Mo_putAtom_10 ?_
  refine mz_ist3 d_Mo_putAtom_11 (rfl) ?_
  have outer : ∀ (q dg : Nat) (S2 : mj_S) (p2 : Nat × (Nat → Int)) (x4 : Value), c1 x4 → dg + q = 10 → 1 ≤ dg → mj_fr S S2 [40, 41] → mo_lp S2 p2 rf wr n hy sr tr rs fo sg → (p2.1 : Int) ≤ p.1 + 2 + mpU B RG a dg 0 n → chR (mpD n B RG a) q dg p2 = mpI n B RG a (lnE p (KM a)) → mj_Ok Γ d M_Mo_putAtom 0 0 12 [.ref 40, .int (iZ i), .int (iZ a), .int (iZ dg), x4] [] S2 (mj_V Q) := by
    intro q
    induction q with
    | zero =>
      intro dg S2 p2 x4 g4 hdg hdg1 f2 m2 hlen he
      have he : p2 = _ := he
      have hu := mpU_le (B := B) (RG := RG) (a := a) (dg := dg) (b := 0) n hBa
      refine mj_iload_n d_Mo_putAtom_12 rfl ?_
      refine mz_bipush d_Mo_putAtom_13 (by decide) ?_
      refine mz_icmp_ge 79 d_Mo_putAtom_15 (by decide) (by omega) (by omega) (fun c_15 => ?_) (fun c_15 => ?_)
      · refine mz_vret d_Mo_putAtom_79 rfl ?_
        rw [hQ, ← he]
        exact ⟨f2, m2, by omega⟩
      · omega
    | succ q ih =>
      intro dg S2 p2 x4 g4 hdg hdg1 f2 m2 hlen he
      rw [chR] at he
      have inner : ∀ (r b : Nat) (S3 : mj_S) (p3 : Nat × (Nat → Int)), b + r = n → mj_fr S S3 [40, 41] → mo_lp S3 p3 rf wr n hy sr tr rs fo sg → (p3.1 : Int) ≤ p.1 + 2 + mpU B RG a dg b n → chR (mpB B RG a dg) r b p3 = mpD n B RG a dg p2 → mj_Ok Γ d M_Mo_putAtom 0 0 21 [.ref 40, .int (iZ i), .int (iZ a), .int (iZ dg), .int (iZ b)] [] S3 (mj_V Q) := by
        intro r
        induction r with
        | zero =>
          intro b S3 p3 hb f3 m3 hlen3 he3
          have : b = n := by omega
          subst this
          have he3 : p3 = mpD b B RG a dg p2 := he3
          have h13 : S3.1 40 = _ := m3.1
          have hw3 := f3.w.trans hw
          refine mj_iload d_Mo_putAtom_21 rfl ?_
          refine mj_aload_n d_Mo_putAtom_23 rfl ?_
          refine mj_get (ci := 9) (j := 4) d_Mo_putAtom_24 rfl w_Mo_129 (by decide) (by omega) (by assumption) rfl ?_
          refine mz_icmp_ge 73 d_Mo_putAtom_27 (by decide) (by omega) (by omega) (fun c_27 => ?_) (fun c_27 => ?_)
          · refine mz_inc3 d_Mo_putAtom_73 (rfl) ?_
            refine mj_goto 12 d_Mo_putAtom_76 (by decide) ?_
            have w := ih (dg + 1) S3 p3 (.int (iZ b)) rfl (by omega) (by omega) f3 m3 (by rw [mpU_next b (Nat.le_refl _)]; exact hlen3) (by rw [he3]; exact he)
            rw [show ((dg + 1 : Nat) : Int) = (dg : Int) + 1 by omega] at w
            exact w
          · omega
        | succ r ihr =>
          intro b S3 p3 hb f3 m3 hlen3 he3
          have h13 : S3.1 40 = _ := m3.1
          have hw3 := f3.w.trans hw
          have h563 := f3.at h56 (by simp)
          have hbn : b < n := by omega
          have rr := hR a b ha hbn
          have bb := hB (a * 6 + b) (by omega)
          have hu := mpU_le (B := B) (RG := RG) (a := a) (dg := dg) (b := b + 1) n hBa
          have hu0 := mpU_le (B := B) (RG := RG) (a := a) (dg := dg) (b := b) n hBa
          have hst := mpU_step (B := B) (RG := RG) (a := a) (dg := dg) (b := b) n hBa
          rw [chR] at he3
          refine mj_iload d_Mo_putAtom_21 rfl ?_
          refine mj_aload_n d_Mo_putAtom_23 rfl ?_
          refine mj_get (ci := 9) (j := 4) d_Mo_putAtom_24 rfl w_Mo_129 (by decide) (by omega) (by assumption) rfl ?_
          refine mz_icmp_ge 73 d_Mo_putAtom_27 (by decide) (by omega) (by omega) (fun c_27 => ?_) (fun c_27 => ?_)
          · omega
          · refine mj_aload_n d_Mo_putAtom_30 rfl ?_
            refine mj_get (ci := 9) (j := 28) d_Mo_putAtom_31 rfl w_Mo_70 (by decide) (by omega) (by assumption) rfl ?_
            refine mz_bipush d_Mo_putAtom_34 (by decide) ?_
            refine mj_iload_n d_Mo_putAtom_36 rfl ?_
            refine mz_imul d_Mo_putAtom_37 ?_
            refine mj_iload d_Mo_putAtom_38 rfl ?_
            refine mz_iadd d_Mo_putAtom_40 ?_
            refine mz_iald (j := a * 6 + b) d_Mo_putAtom_41 (by omega) (by assumption) (by omega) (by omega) ?_
            refine mj_iload_n d_Mo_putAtom_42 rfl ?_
            refine mz_icmp_ne 67 d_Mo_putAtom_43 (by decide) (by omega) (by omega) (fun c_43 => ?_) (fun c_43 => ?_)
            · refine mz_inc4 d_Mo_putAtom_67 (rfl) ?_
              refine mj_goto 21 d_Mo_putAtom_70 (by decide) ?_
              rw [if_neg (by omega)] at hst
              have w := ihr (b + 1) S3 p3 (by omega) f3 m3 (by omega) (by rw [← he3, mpB, if_neg c_43])
              rw [show ((b + 1 : Nat) : Int) = (b : Int) + 1 by omega] at w
              exact w
            · have rb := hRB a b ha hbn (by omega)
              rw [if_pos ⟨hbn, c_43⟩] at hst
              have lb := lnB_le (p := p3) (b := B (a * 6 + b)) bb
              have l60 : (lnB p3 (B (a * 6 + b))).1 + 1 ≤ p3.1 + (B (a * 6 + b)).toNat := by
                have := lb.1
                by_cases z : 2 ≤ B (a * 6 + b)
                · rw [if_pos z] at this; omega
                · rw [if_neg z] at this; omega
              refine mj_aload_n d_Mo_putAtom_46 rfl ?_
              refine mj_aload_n d_Mo_putAtom_47 rfl ?_
              refine mj_iload_n d_Mo_putAtom_48 rfl ?_
              refine mj_iload_n d_Mo_putAtom_49 rfl ?_
              refine mj_iload d_Mo_putAtom_50 rfl ?_
              refine mz_callV3i (ci := 9) d_Mo_putAtom_52 (m_Mo_bondOf (d := 1) hw3 m3.1 (f3.at h40 (by simp)) hi (by omega) (by omega) (by omega)) cw_Mo_bondOf lk_Mo_196 rfl rfl (by omega) (by assumption) (by omega) rfl (fun z_52 S_52 h_52 => ?_)
              obtain ⟨e52, rfl⟩ := h_52
              rw [e52, hT a b ha hbn]
              refine mz_callV1v (ci := 9) d_Mo_putAtom_55 (m_Mo_putBond (d := 1) hw3 m3 bb (by split <;> omega) (by omega)) cw_Mo_putBond lk_Mo_213 rfl rfl (by omega) (by assumption) (by omega) rfl (fun S_55 h_55 => ?_)
              obtain ⟨k1, k2⟩ := h_55
              have hw4 := k1.w.trans hw3
              have k20 : S_55.1 40 = _ := k2.1
              refine mj_aload_n d_Mo_putAtom_58 rfl ?_
              refine mz_bipush d_Mo_putAtom_59 (by decide) ?_
              refine mj_iload_n d_Mo_putAtom_61 rfl ?_
              refine mz_iadd d_Mo_putAtom_62 ?_
              refine mj_i2c d_Mo_putAtom_63 ?_
              have ec : ((iZ (48 + (dg : Int))).toUInt32 % 65536).toInt32 = iZ (48 + (dg : Int)) := by
                have t : ∀ k : Nat, k < 10 → ((iZ (48 + (k : Int))).toUInt32 % 65536).toInt32 = iZ (48 + (k : Int)) := by decide
                exact t dg (by omega)
              rw [ec]
              refine mz_callV1v (ci := 9) d_Mo_putAtom_64 (m_Mo_put (d := 0) hw4 k2 (by omega) (by omega)) cw_Mo_put lk_Mo_200 rfl rfl (by omega) (by assumption) (by omega) rfl (fun S_64 h_64 => ?_)
              obtain ⟨k3, k4⟩ := h_64
              refine mz_inc4 d_Mo_putAtom_67 (rfl) ?_
              refine mj_goto 21 d_Mo_putAtom_70 (by decide) ?_
              have la := lnA_le (p := lnB p3 (B (a * 6 + b))) (c := 48 + (dg : Int))
              have w := ihr (b + 1) S_64 _ (by omega) ((f3.tr k1 (l := [40, 41]) (by simp) (by simp)).tr k3 (by simp) (by simp)) k4 (by omega) (by rw [← he3, mpB, if_pos c_43])
              rw [show ((b + 1 : Nat) : Int) = (b : Int) + 1 by omega] at w
              exact w
      have h12 : S2.1 40 = _ := m2.1
      refine mj_iload_n d_Mo_putAtom_12 rfl ?_
      refine mz_bipush d_Mo_putAtom_13 (by decide) ?_
      refine mz_icmp_ge 79 d_Mo_putAtom_15 (by decide) (by omega) (by omega) (fun c_15 => ?_) (fun c_15 => ?_)
      · omega
      · refine mz_iconst d_Mo_putAtom_18 ?_
        refine mz_ist4 d_Mo_putAtom_19 (by unfold mj_c1; simp only [List.all_cons, g4]; rfl) ?_
        exact inner n 0 S2 p2 (by omega) f2 m2 hlen rfl
  have hu := mpU_le (B := B) (RG := RG) (a := a) (dg := 1) (b := 0) n hBa
  exact outer 9 1 S_7 _ (.retAddr 0) rfl (by omega) (by omega) g1 g2 (by omega) rfl
end WR1
