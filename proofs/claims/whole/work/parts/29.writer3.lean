/-! the writer of texts: atoms put, the whole -/
def lfo (CF : Nat → Int) (a : Int) : Nat → Int
  | 0 => -1
  | n + 1 => if CF n = a then (n : Int) else lfo CF a n
theorem lfo_spec {CF : Nat → Int} {a z : Int} : ∀ n, ((∃ b : Nat, z = b ∧ b < n ∧ CF b = a ∧ ∀ j, b < j → j < n → CF j ≠ a) ∨ (z = -1 ∧ ∀ j, j < n → CF j ≠ a)) → z = lfo CF a n := by
  intro n
  induction n with
  | zero =>
    intro h
    rcases h with ⟨b, _, hb, _⟩ | h
    · exact absurd hb (Nat.not_lt_zero b)
    · exact h.1
  | succ n ih =>
    intro h
    unfold lfo
    by_cases q : CF n = a
    · rw [if_pos q]
      rcases h with ⟨b, h1, h2, h3, h4⟩ | h
      · by_cases e : b = n
        · rw [h1, e]
        · exact absurd q (h4 n (by omega) (by omega))
      · exact absurd q (h.2 n (by omega))
    · rw [if_neg q]
      apply ih
      rcases h with ⟨b, h1, h2, h3, h4⟩ | h
      · have e : b ≠ n := fun e => q (by rw [← e]; exact h3)
        exact Or.inl ⟨b, h1, by omega, h3, fun j j1 j2 => h4 j j1 (by omega)⟩
      · exact Or.inr ⟨h.1, fun j hj => h.2 j (by omega)⟩
theorem lfo_r {CF : Nat → Int} {a : Int} : ∀ n, lfo CF a n = -1 ∨ ∃ b : Nat, lfo CF a n = b ∧ b < n ∧ CF b = a := by
  intro n
  induction n with
  | zero => exact Or.inl rfl
  | succ n ih =>
    unfold lfo
    by_cases q : CF n = a
    · rw [if_pos q]; exact Or.inr ⟨n, rfl, by omega, q⟩
    · rw [if_neg q]
      rcases ih with h | ⟨b, h1, h2, h3⟩
      · exact Or.inl h
      · exact Or.inr ⟨b, h1, by omega, h3⟩
/-- an atom with all that hangs on it -/
def ptI (n : Nat) (K B CF RS RE : Nat → Int) (r : Nat) : Nat → Nat → Nat × (Nat → Int) → Nat × (Nat → Int)
  | 0, _, p => p
  | m + 1, a, p =>
    if lfo CF a n = -1 then chR (fun b p => if CF b = (a : Int) then lnA (ptI n K B CF RS RE r m b (lnB (lnA p 40) (B (a * 6 + b)))) 41 else p) (lfo CF a n).toNat 0 (prI B RS RE a r 1 (lnE p (K a).toNat))
    else ptI n K B CF RS RE r m (lfo CF a n).toNat (lnB (chR (fun b p => if CF b = (a : Int) then lnA (ptI n K B CF RS RE r m b (lnB (lnA p 40) (B (a * 6 + b)))) 41 else p) (lfo CF a n).toNat 0 (prI B RS RE a r 1 (lnE p (K a).toNat))) (B (a * 6 + (lfo CF a n).toNat)))
section TW3
variable {Γ : mj_G} {n r : Nat} {K F B CF RS RE : Nat → Int}
theorem m_Tw_putAtom (hT : mj_tab Γ) (hn : n ≤ 6) (hr : r ≤ 9) (hB : ∀ j, j < 36 → 0 ≤ B j ∧ B j ≤ 3) (hK : ∀ j, j < n → ∃ k : Nat, K j = k ∧ k < 9) (hR : ∀ j, 1 ≤ j → j ≤ r → (∃ x : Nat, RS j = x ∧ x < 6) ∧ ∃ x : Nat, RE j = x ∧ x < 6) (hC : ∀ j, j < n → iR (CF j)) (hO : ∀ j, n ≤ j → j < 6 → CF j = -2) {rk : Nat → Nat} (hrk : ∀ b x : Nat, b < n → x < n → CF b = x → rk x < rk b ∧ rk b ≤ 6) :
    ∀ (m a d : Nat) (ep : Int) (S : mj_S) (p : Nat × (Nat → Int)), S.2.1 = 65 → mj_tw S r CF RS RE → mj_ml S 33 n K F B → mj_lp S p → a < n → rk a ≤ 6 → 7 ≤ m + rk a → 0 ≤ ep → ep < rk a → 2 * m + 3 ≤ d →
    mj_Met Γ d y_Tw_putAtom M_Tw_putAtom [.ref 13, .ref 1, .ref 33, .int (iZ a), .int (iZ ep)] S 0 0 (mj_V fun S' => mj_fr S S' [1, 2] ∧ mj_lp S' (ptI n K B CF RS RE r m a p)) := by
  intro m
  induction m with
  | zero => intro a d ep S p hw ht hm hp ha hra hmr he1 he2 hd; omega
  | succ m ih =>
    intro a d ep S p hw ht hm hp ha hra hmr he1 he2 hd
    obtain ⟨t1, t2, t3, t4⟩ := id ht
    have m1 := hm.1
    have m2 := hm.2.1
    have l1 := hp.1
    obtain ⟨k, hk, hk9⟩ := hK a ha
    have hkt : (K a).toNat = k := by omega
    refine mj_Met.of (by decide) ⟨rfl, rfl⟩ rfl rfl rfl ?_
    refine mj_iload d_Tw_putAtom_0 rfl ?_
    refine mz_bipush d_Tw_putAtom_2 (by decide) ?_
    refine mz_icmp_lt 8 d_Tw_putAtom_4 (by decide) (by omega) (by omega) (fun c_4 => ?_) (fun c_4 => ?_)
    rotate_left
    · omega
    refine mj_aload_n d_Tw_putAtom_8 rfl ?_
    refine mj_aload_n d_Tw_putAtom_9 rfl ?_
    refine mj_get (ci := 4) (j := 0) d_Tw_putAtom_10 rfl w_Tw_57 (by decide) (by omega) (by assumption) rfl ?_
    refine mj_iload_n d_Tw_putAtom_13 rfl ?_
    refine mz_iald d_Tw_putAtom_14 (by omega) (by assumption) (rfl) (by omega) ?_
    rw [hk]
    refine mz_callV1v (ci := 1) d_Tw_putAtom_15 (m_Ln_addElementP (d := 1) hT hw hp (by omega) (by omega)) cw_Ln_addElement lk_Tw_60 rfl rfl (by omega) (by assumption) (by omega) rfl (fun S_15 h_15 => ?_)
    obtain ⟨g1, g2⟩ := h_15
    have hw15 : S_15.2.1 = 65 := g1.w.trans hw
    have ht15 := ht.fr g1 (by simp) (by simp) (by simp) (by simp)
    have hm15 : mj_ml S_15 33 n K F B := hm.fr g1 (by simp)
    have t1a := ht15.1
    refine mj_aload_n d_Tw_putAtom_18 rfl ?_
    refine mj_aload_n d_Tw_putAtom_19 rfl ?_
    refine mj_aload_n d_Tw_putAtom_20 rfl ?_
    refine mj_iload_n d_Tw_putAtom_21 rfl ?_
    refine mz_callV3v (ci := 5) d_Tw_putAtom_22 (m_Tw_putRings (d := 2) hw15 ht15 hm15 g2 hr (by omega) hR hB (by omega)) cw_Tw_putRings lk_Tw_64 rfl rfl (by omega) (by assumption) (by omega) rfl (fun S_22 h_22 => ?_)
    obtain ⟨g3, g4⟩ := h_22
    have f2 : mj_fr S S_22 [1, 2] := g1.tr g3 (by simp) (by simp)
    have hw22 : S_22.2.1 = 65 := f2.w.trans hw
    have ht22 := ht.fr f2 (by simp) (by simp) (by simp) (by simp)
    have t1b := ht22.1
    refine mj_aload_n d_Tw_putAtom_25 rfl ?_
    refine mj_iload_n d_Tw_putAtom_26 rfl ?_
    refine mz_callV1i (ci := 5) d_Tw_putAtom_27 (m_Tw_lastFurtherOn (d := 0) hw22 ht22 hn (by omega) (by omega) hC hO) cw_Tw_lastFurtherOn lk_Tw_68 rfl rfl (by omega) (by assumption) (by omega) rfl (fun z_27 S_27 h_27 => ?_)
    obtain ⟨rfl, hz⟩ := h_27
    have hz := lfo_spec n hz
    subst hz
    have hlf := lfo_r (CF := CF) (a := (a : Int)) n
    obtain ⟨la, hla⟩ : ∃ la : Int, la = lfo CF a n := ⟨_, rfl⟩
    rw [← hla] at hlf ⊢
    have hlr : iR la ∧ -1 ≤ la ∧ la < 7 := by
      rcases hlf with w | ⟨b, w, w2, _⟩
      · rw [w]; decide
      · rw [w]; omega
    refine mz_ist5 d_Tw_putAtom_30 (rfl) ?_
    refine mz_iconst d_Tw_putAtom_32 ?_
    refine mz_ist6 d_Tw_putAtom_33 (rfl) ?_
    have loop : ∀ (q b : Nat) (S1 : mj_S) (p1 : Nat × (Nat → Int)), b + q = la.toNat → mj_fr S S1 [1, 2] → mj_lp S1 p1 → mj_Ok Γ d M_Tw_putAtom 0 0 35 [.ref 13, .ref 1, .ref 33, .int (iZ a), .int (iZ ep), .int (iZ la), .int (iZ b)] [] S1
        (mj_V fun S' => mj_fr S S' [1, 2] ∧ mj_lp S' (if la = -1 then chR (fun b p => if CF b = (a : Int) then lnA (ptI n K B CF RS RE r m b (lnB (lnA p 40) (B (a * 6 + b)))) 41 else p) q b p1 else ptI n K B CF RS RE r m la.toNat (lnB (chR (fun b p => if CF b = (a : Int) then lnA (ptI n K B CF RS RE r m b (lnB (lnA p 40) (B (a * 6 + b)))) 41 else p) q b p1) (B (a * 6 + la.toNat))))) := by
      intro q
      induction q with
      | zero =>
        intro b S1 p1 hb f1 hp1
        have hw1 : S1.2.1 = 65 := f1.w.trans hw
        have ht1 := ht.fr f1 (by simp) (by simp) (by simp) (by simp)
        have hm1 : mj_ml S1 33 n K F B := hm.fr f1 (by simp)
        have m1c := hm1.1
        have l1c := hp1.1
        refine mj_iload d_Tw_putAtom_35 rfl ?_
        refine mj_iload d_Tw_putAtom_37 rfl ?_
        refine mz_icmp_ge 94 d_Tw_putAtom_39 (by decide) (by omega) (hlr.1) (fun c_39 => ?_) (fun c_39 => ?_)
        · refine mj_iload d_Tw_putAtom_94 rfl ?_
          refine mz_iconst d_Tw_putAtom_96 ?_
          refine mz_icmp_eq 123 d_Tw_putAtom_97 (by decide) (hlr.1) (by decide) (fun c_97 => ?_) (fun c_97 => ?_)
          · refine mz_vret d_Tw_putAtom_123 rfl ?_
            rw [if_pos c_97]
            exact ⟨f1, hp1⟩
          · rcases hlf with w | ⟨b2, w, w2, w3⟩
            · exact absurd w c_97
            · have hb2 : la.toNat = b2 := by omega
              rw [if_neg c_97, hb2, w]
              have hrb := hrk b2 a w2 ha w3
              have hbb := hB (a * 6 + b2) (by omega)
              refine mj_aload_n d_Tw_putAtom_100 rfl ?_
              refine mj_aload_n d_Tw_putAtom_101 rfl ?_
              refine mj_iload_n d_Tw_putAtom_102 rfl ?_
              refine mj_iload d_Tw_putAtom_103 rfl ?_
              refine mz_callV2i (ci := 4) d_Tw_putAtom_105 (m_Ml_between (d := 0) hw1 hm1 (by omega) (by omega)) cw_Ml_between lk_Tw_49 rfl rfl (by omega) (by assumption) (by omega) rfl (fun z_105 S_105 h_105 => ?_)
              obtain ⟨rfl, rfl⟩ := h_105
              refine mz_callV1v (ci := 1) d_Tw_putAtom_108 (m_Ln_addBondP (d := 1) hw1 hp1 (by omega) (by omega)) cw_Ln_addBond lk_Tw_76 rfl rfl (by omega) (by assumption) (by omega) rfl (fun S_108 h_108 => ?_)
              obtain ⟨g5, g6⟩ := h_108
              have hw2 : S_108.2.1 = 65 := g5.w.trans hw1
              have ht2 := ht1.fr g5 (by simp) (by simp) (by simp) (by simp)
              have t1d := ht2.1
              refine mj_aload_n d_Tw_putAtom_111 rfl ?_
              refine mj_aload_n d_Tw_putAtom_112 rfl ?_
              refine mj_aload_n d_Tw_putAtom_113 rfl ?_
              refine mj_iload d_Tw_putAtom_114 rfl ?_
              refine mj_iload d_Tw_putAtom_116 rfl ?_
              refine mz_iconst d_Tw_putAtom_118 ?_
              refine mz_iadd d_Tw_putAtom_119 ?_
              refine mz_callV4v (ci := 5) d_Tw_putAtom_120 (ih b2 (d - 1) (ep + 1) S_108 _ hw2 ht2 (hm1.fr g5 (by simp)) g6 w2 (by omega) (by omega) (by omega) (by omega) (by omega)) cw_Tw_putAtom lk_Tw_40 rfl rfl (by omega) (by assumption) (by omega) rfl (fun S_120 h_120 => ?_)
              obtain ⟨g7, g8⟩ := h_120
              refine mz_vret d_Tw_putAtom_123 rfl ?_
              exact ⟨(f1.tr g5 (l := [1, 2]) (by simp) (by simp)).tr g7 (by simp) (by simp), g8⟩
        · omega
      | succ q ih2 =>
        intro b S1 p1 hb f1 hp1
        have hw1 : S1.2.1 = 65 := f1.w.trans hw
        have ht1 := ht.fr f1 (by simp) (by simp) (by simp) (by simp)
        have hm1 : mj_ml S1 33 n K F B := hm.fr f1 (by simp)
        have t1c := ht1.1
        have t2c := ht1.2.1
        have l1c := hp1.1
        have hbn : b < n := by
          rcases hlf with w | ⟨b2, w, w2, w3⟩ <;> omega
        have hcb := hC b hbn
        refine mj_iload d_Tw_putAtom_35 rfl ?_
        refine mj_iload d_Tw_putAtom_37 rfl ?_
        refine mz_icmp_ge 94 d_Tw_putAtom_39 (by decide) (by omega) (hlr.1) (fun c_39 => ?_) (fun c_39 => ?_)
        · omega
        · refine mj_aload_n d_Tw_putAtom_42 rfl ?_
          refine mj_get (ci := 5) (j := 0) d_Tw_putAtom_43 rfl w_Tw_9 (by decide) (by omega) (by assumption) rfl ?_
          refine mj_iload d_Tw_putAtom_46 rfl ?_
          refine mz_iald d_Tw_putAtom_48 (by omega) (by assumption) (rfl) (by omega) ?_
          refine mj_iload_n d_Tw_putAtom_49 rfl ?_
          refine mz_icmp_ne 88 d_Tw_putAtom_50 (by decide) (hcb) (by omega) (fun c_50 => ?_) (fun c_50 => ?_)
          · refine mz_inc6 d_Tw_putAtom_88 (rfl) ?_
            refine mj_goto 35 d_Tw_putAtom_91 (by decide) ?_
            have w := ih2 (b + 1) S1 p1 (by omega) f1 hp1
            rw [chR, if_neg c_50]
            exact w
          · have hrb := hrk b a hbn ha c_50
            have hbb := hB (a * 6 + b) (by omega)
            refine mj_aload_n d_Tw_putAtom_53 rfl ?_
            refine mz_bipush d_Tw_putAtom_54 (by decide) ?_
            refine mz_callV1v (ci := 1) d_Tw_putAtom_56 (m_Ln_addP (d := 0) hw1 hp1 (by omega)) cw_Ln_add lk_Tw_72 rfl rfl (by omega) (by assumption) (by omega) rfl (fun S_56 h_56 => ?_)
            obtain ⟨g5, g6⟩ := h_56
            have hw2 : S_56.2.1 = 65 := g5.w.trans hw1
            have ht2 := ht1.fr g5 (by simp) (by simp) (by simp) (by simp)
            have hm2 : mj_ml S_56 33 n K F B := hm1.fr g5 (by simp)
            have m1d := hm2.1
            have l1d := g6.1
            refine mj_aload_n d_Tw_putAtom_59 rfl ?_
            refine mj_aload_n d_Tw_putAtom_60 rfl ?_
            refine mj_iload_n d_Tw_putAtom_61 rfl ?_
            refine mj_iload d_Tw_putAtom_62 rfl ?_
            refine mz_callV2i (ci := 4) d_Tw_putAtom_64 (m_Ml_between (d := 0) hw2 hm2 (by omega) (by omega)) cw_Ml_between lk_Tw_49 rfl rfl (by omega) (by assumption) (by omega) rfl (fun z_64 S_64 h_64 => ?_)
            obtain ⟨rfl, rfl⟩ := h_64
            refine mz_callV1v (ci := 1) d_Tw_putAtom_67 (m_Ln_addBondP (d := 1) hw2 g6 (by omega) (by omega)) cw_Ln_addBond lk_Tw_76 rfl rfl (by omega) (by assumption) (by omega) rfl (fun S_67 h_67 => ?_)
            obtain ⟨g7, g8⟩ := h_67
            have hw3 : S_67.2.1 = 65 := g7.w.trans hw2
            have ht3 := ht2.fr g7 (by simp) (by simp) (by simp) (by simp)
            have t1e := ht3.1
            refine mj_aload_n d_Tw_putAtom_70 rfl ?_
            refine mj_aload_n d_Tw_putAtom_71 rfl ?_
            refine mj_aload_n d_Tw_putAtom_72 rfl ?_
            refine mj_iload d_Tw_putAtom_73 rfl ?_
            refine mj_iload d_Tw_putAtom_75 rfl ?_
            refine mz_iconst d_Tw_putAtom_77 ?_
            refine mz_iadd d_Tw_putAtom_78 ?_
            refine mz_callV4v (ci := 5) d_Tw_putAtom_79 (ih b (d - 1) (ep + 1) S_67 _ hw3 ht3 (hm2.fr g7 (by simp)) g8 hbn (by omega) (by omega) (by omega) (by omega) (by omega)) cw_Tw_putAtom lk_Tw_40 rfl rfl (by omega) (by assumption) (by omega) rfl (fun S_79 h_79 => ?_)
            obtain ⟨g9, g10⟩ := h_79
            have hw4 : S_79.2.1 = 65 := g9.w.trans hw3
            have l1e := g10.1
            refine mj_aload_n d_Tw_putAtom_82 rfl ?_
            refine mz_bipush d_Tw_putAtom_83 (by decide) ?_
            refine mz_callV1v (ci := 1) d_Tw_putAtom_85 (m_Ln_addP (d := 0) hw4 g10 (by omega)) cw_Ln_add lk_Tw_72 rfl rfl (by omega) (by assumption) (by omega) rfl (fun S_85 h_85 => ?_)
            obtain ⟨g11, g12⟩ := h_85
            refine mz_inc6 d_Tw_putAtom_88 (rfl) ?_
            refine mj_goto 35 d_Tw_putAtom_91 (by decide) ?_
            have w := ih2 (b + 1) S_85 _ (by omega) ((((f1.tr g5 (l := [1, 2]) (by simp) (by simp)).tr g7 (l := [1, 2]) (by simp) (by simp)).tr g9 (l := [1, 2]) (by simp) (by simp)).tr g11 (by simp) (by simp)) g12
            rw [chR, if_pos c_50]
            exact w
    have w := loop la.toNat 0 S_27 _ (by omega) f2 g4
    rw [ptI, ← hla, hkt]
    exact w
/-- the ranks that the walk gives -/
def gRK (n : Nat) (g : GS) (rk : Nat → Nat) : Prop := ∀ b x : Nat, b < n → x < n → g.1 b = x → g.1 x ≠ -2 ∧ rk x < rk b ∧ rk b ≤ 6
theorem gtI_rk {n : Nat} {B : Nat → Int} : ∀ (m a : Nat) (bf : Int) (g : GS) (rk : Nat → Nat), m ≤ 6 → gOK n g → a < n → g.1 a = -2 → mj_cnt g.1 (-2) n ≤ m → (bf = -1 ∨ ∃ x : Nat, bf = x ∧ x < n ∧ g.1 x ≠ -2 ∧ rk x + m < 7) → gRK n g rk → ∃ rk', gRK n (gtI n B m a bf g) rk' ∧ (∀ x, x < n → g.1 x ≠ -2 → rk' x = rk x ∧ (gtI n B m a bf g).1 x = g.1 x) ∧ (gtI n B m a bf g).1 a = bf ∧ 1 ≤ rk' a := by
  intro m
  induction m with
  | zero =>
    intro a bf g rk hm hg ha h2 hc hb hk
    have := mj_cnt_dec (f := g.1) (k := -2) (v := 0) (a := a) (by decide) h2 n ha
    omega
  | succ m ih =>
    intro a bf g rk hm hg ha h2 hc hb hk
    have hb' : bf = -1 ∨ ∃ x : Nat, bf = x ∧ x < n := hb.imp id (fun ⟨x, a1, a2, _⟩ => ⟨x, a1, a2⟩)
    have hbn : bf ≠ -2 := by rcases hb' with h | ⟨x, h, _⟩ <;> omega
    have hd := mj_cnt_dec (f := g.1) (k := -2) (v := bf) (a := a) hbn h2 n ha
    have k0 : gRK n (va_up g.1 a bf, g.2) (va_up rk a (6 - m)) := by
      intro b x hb1 hx1 hbx
      have hbx : va_up g.1 a bf b = x := hbx
      show va_up g.1 a bf x ≠ -2 ∧ va_up rk a (6 - m) x < va_up rk a (6 - m) b ∧ va_up rk a (6 - m) b ≤ 6
      by_cases e : b = a
      · subst e
        rw [va_up_self] at hbx
        rcases hb with h | ⟨y, a1, a2, a3, a4⟩
        · omega
        · have exy : x = y := by omega
          subst exy
          have hxb : x ≠ b := fun z => a3 (by rw [z]; exact h2)
          rw [va_up_ne _ _ hxb, va_up_ne _ _ hxb, va_up_self]
          exact ⟨a3, by omega, by omega⟩
      · rw [va_up_ne _ _ e] at hbx
        have w := hk b x hb1 hx1 hbx
        have hxa : x ≠ a := fun z => w.1 (by rw [z]; exact h2)
        rw [va_up_ne _ _ hxa, va_up_ne _ _ hxa, va_up_ne _ _ e]
        exact w
    have loop : ∀ (q b : Nat) (g1 : GS) (rk1 : Nat → Nat), b + q ≤ n → gOK n g1 → mj_cnt g1.1 (-2) n ≤ m → gRK n g1 rk1 → g1.1 a = bf → rk1 a = 6 - m → ∃ rk', gRK n (chR (fun b g => if 0 < B (a * 6 + b) then (if g.1 b = -2 then gtI n B m b a g else if (b : Int) ≠ bf then (g.1, mtR a b g.2.1 g.2.2.1 g.2.2.2) else g) else g) q b g1) rk' ∧ ∀ x, x < n → g1.1 x ≠ -2 → rk' x = rk1 x ∧ (chR (fun b g => if 0 < B (a * 6 + b) then (if g.1 b = -2 then gtI n B m b a g else if (b : Int) ≠ bf then (g.1, mtR a b g.2.1 g.2.2.1 g.2.2.2) else g) else g) q b g1).1 x = g1.1 x := by
      intro q
      induction q with
      | zero => intro b g1 rk1 _ _ _ h1 _ _; exact ⟨rk1, h1, fun x _ _ => ⟨rfl, rfl⟩⟩
      | succ q ih2 =>
        intro b g1 rk1 hb1 h1 hc1 hk1 hga hra
        rw [chR]
        by_cases q1 : 0 < B (a * 6 + b)
        · rw [if_pos q1]
          by_cases q2 : g1.1 b = -2
          · rw [if_pos q2]
            have ok := gtI_ok (B := B) m b a g1 h1 (by omega) q2 hc1 (Or.inr ⟨a, rfl, ha⟩)
            obtain ⟨rk2, w1, w2, w3⟩ := ih b a g1 rk1 (by omega) h1 (by omega) q2 hc1 (Or.inr ⟨a, rfl, ha, by rw [hga]; exact hbn, by omega⟩) hk1
            have wa := w2 a ha (by rw [hga]; exact hbn)
            obtain ⟨rk3, u1, u2⟩ := ih2 (b + 1) _ rk2 (by omega) ok.1 (by omega) w1 (wa.2.trans hga) (wa.1.trans hra)
            refine ⟨rk3, u1, fun x hx hx2 => ?_⟩
            have v := w2 x hx hx2
            have v2 := u2 x hx (by rw [v.2]; exact hx2)
            exact ⟨v2.1.trans v.1, v2.2.trans v.2⟩
          · rw [if_neg q2]
            by_cases q3 : (b : Int) ≠ bf
            · rw [if_pos q3]
              exact ih2 (b + 1) (g1.1, mtR a b g1.2.1 g1.2.2.1 g1.2.2.2) rk1 (by omega) (gOK_mt h1 ha (by omega)) hc1 hk1 hga hra
            · rw [if_neg q3]
              exact ih2 (b + 1) g1 rk1 (by omega) h1 hc1 hk1 hga hra
        · rw [if_neg q1]
          exact ih2 (b + 1) g1 rk1 (by omega) h1 hc1 hk1 hga hra
    obtain ⟨rk', w1, w2⟩ := loop n 0 (va_up g.1 a bf, g.2) (va_up rk a (6 - m)) (by omega) (gOK_up hg hb') (by show mj_cnt (va_up g.1 a bf) (-2) n ≤ m; omega) k0 (va_up_self _ _ _) (va_up_self _ _ _)
    rw [gtI]
    refine ⟨rk', w1, fun x hx hx2 => ?_, ?_⟩
    · have hxa : x ≠ a := fun z => hx2 (by rw [z]; exact h2)
      have v := w2 x hx (by show va_up g.1 a bf x ≠ -2; rw [va_up_ne _ _ hxa]; exact hx2)
      refine ⟨v.1.trans (va_up_ne _ _ hxa), v.2.trans ?_⟩
      exact va_up_ne _ _ hxa
    · have v := w2 a ha (by show va_up g.1 a bf a ≠ -2; rw [va_up_self]; exact hbn)
      exact ⟨v.2.trans (va_up_self _ _ _), by rw [v.1, va_up_self]; omega⟩
end TW3
