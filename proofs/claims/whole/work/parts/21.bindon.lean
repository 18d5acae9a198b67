/-! the lister's bindOn, and fill -/
theorem mset_bind2 {F : Nat → Int} {a b : Nat} {u v : Int} (hab : a ≠ b) : va_up (va_up (mset F a b u) a (mset F a b u a - (v - u))) b (va_up (mset F a b u) a (mset F a b u a - (v - u)) b - (v - u)) = mset F a b v := by
  have h := mset_bind (F := F) (B := fun _ => 0) (a := a) (b := b) (u := u) (v := v) hab bset_at
  rw [bset_at] at h
  exact h
theorem bsetN_bind {B1 : Nat → Int} {BN : Nat → Nat} {a b u v : Nat} (h : ∀ j, j < 36 → B1 j = bsetN BN a b u j ∧ bsetN BN a b u j < 4) (hv : v < 4) : ∀ j, j < 36 → va_up (va_up B1 (a * 6 + b) (v : Int)) (b * 6 + a) (v : Int) j = bsetN BN a b v j ∧ bsetN BN a b v j < 4 := by
  intro j hj
  have hj1 := h j hj
  unfold bsetN at hj1 ⊢
  by_cases jb : j = b * 6 + a
  · subst jb; rw [va_up_self, va_up_self]; exact ⟨rfl, hv⟩
  · rw [va_up_ne _ _ jb, va_up_ne _ _ jb]
    by_cases ja : j = a * 6 + b
    · subst ja; rw [va_up_self, va_up_self]; exact ⟨rfl, hv⟩
    · rw [va_up_ne _ _ ja, va_up_ne _ _ ja]
      rw [va_up_ne _ _ jb, va_up_ne _ _ ja] at hj1
      exact hj1
theorem bsetN_at {BN : Nat → Nat} {a b u : Nat} : bsetN BN a b u (a * 6 + b) = u := by
  unfold bsetN
  by_cases e : a * 6 + b = b * 6 + a
  · rw [e, va_up_self]
  · rw [va_up_ne _ _ e, va_up_self]
theorem bsetN_0 {BN : Nat → Nat} {a b : Nat} (h1 : BN (a * 6 + b) = 0) (h2 : BN (b * 6 + a) = 0) : bsetN BN a b 0 = BN := by
  funext j
  unfold bsetN
  by_cases jb : j = b * 6 + a
  · subst jb; rw [va_up_self, h2]
  · rw [va_up_ne _ _ jb]
    by_cases ja : j = a * 6 + b
    · subst ja; rw [va_up_self, h1]
    · rw [va_up_ne _ _ ja]
theorem chR_full {f : Nat → List Nat → List Nat} (g : Nat → List Nat → List Nat) (hf : f = fun i acc => if 500 < acc.length then acc else g i acc) : ∀ (r i : Nat) (acc : List Nat), 500 < acc.length → chR f r i acc = acc := by
  intro r
  induction r with
  | zero => intro i acc _; rfl
  | succ r ih =>
    intro i acc h
    rw [chR, hf]
    show chR _ r (i + 1) (if 500 < acc.length then acc else g i acc) = acc
    rw [if_pos h, ← hf]
    exact ih (i + 1) acc h
section BO
variable {Γ : mj_G} {A ca nC hC : Nat} {K V KC : Nat → Int} {KM : Nat → Nat}
theorem mset_r {F : Nat → Int} {a b A : Nat} {v : Int} (hF : ∀ j, j < A → 0 ≤ F j ∧ F j ≤ 100) (hv : 0 ≤ v ∧ v ≤ F a ∧ v ≤ F b) : ∀ j, j < A → 0 ≤ mset F a b v j ∧ mset F a b v j ≤ 100 := by
  intro j hj
  have := hF j hj
  unfold mset
  by_cases jb : j = b
  · subst jb; rw [va_up_self]; omega
  · rw [va_up_ne _ _ jb]
    by_cases ja : j = a
    · subst ja; rw [va_up_self]; omega
    · rw [va_up_ne _ _ ja]; exact this
theorem m_Ls_bindOn (hca : 20 < ca ∧ ca + 2 < 24) (hA : A ≤ 6) (hK : ∀ j, j < A → K j = KM j ∧ KM j < 1000) (hV : ∀ j, j ≤ A → iR (V j)) : ∀ (m a b c d : Nat) (S : mj_S) (left : Int) (F : Nat → Int) (BN : Nat → Nat) (acc : List Nat), mj_en S A ca nC hC K V KC F BN acc → a < A → b ≤ a → 7 * (A - a) + (a - b) ≤ m → c < 2 ^ 30 → 0 ≤ left ∧ left ≤ 100 → (∀ j, j < A → 0 ≤ F j ∧ F j ≤ 100) → (∀ x y, y < x → x < 6 → (a < x ∨ (x = a ∧ b ≤ y)) → BN (x * 6 + y) = 0 ∧ BN (y * 6 + x) = 0) → acc.length ≤ 500 → 2 * m + 20 ≤ d →
    mj_Met Γ d y_Ls_bindOn M_Ls_bindOn [.ref 20, .int (iZ a), .int (iZ b), .int (iZ left), .int (iZ c)] S 0 0 (mj_V fun S' => mj_fr S S' [24, 25, 26, 29, 30, 32, ca, ca + 2] ∧ mj_en S' A ca nC hC K V KC F BN (en A KM V m a b left c F BN acc) ∧ (en A KM V m a b left c F BN acc).length ≤ 501) := by
  intro m
  induction m with
  | zero => intro a b c d S left F BN acc he ha hb hm; omega
  | succ m ih =>
    intro a b c d S left F BN acc he ha hb hm hc hleft hF hZ hacc hd
    have he0 := he
    obtain ⟨hw, hl, ⟨B, hml, hB⟩, hnu, ⟨GA, hg⟩, D, hcat, hD⟩ := he
    have l1 := hl.1
    have m1 := hml.1
    have m3 := hml.2.2.1
    have hcat62 := hcat.2.2.2
    refine mj_Met.of (by decide) ⟨rfl, rfl⟩ rfl rfl rfl ?_
    refine mj_iload_n d_Ls_bindOn_0 rfl ?_
    refine mj_iload_n d_Ls_bindOn_1 rfl ?_
    refine mz_icmp_lt 14 d_Ls_bindOn_2 (by decide) (by omega) (by omega) (fun c_2 => ?_) (fun c_2 => ?_)
    · have hsh := mj_sh_r a (by omega)
      have hFa := hF a ha
      have hFb := hF b (by omega)
      refine mj_iload_n d_Ls_bindOn_14 rfl ?_
      refine mz_callSN1i d_Ls_bindOn_15 (m_IL_rowShift (d := 0) (by omega)) cw_IL_rowShift lk_Ls_60 (by omega) rfl (fun z_15 S_15 h_15 => ?_)
      obtain ⟨rfl, rfl⟩ := h_15
      rw [mj_sh_i a (by omega)]
      refine mz_iconst d_Ls_bindOn_18 ?_
      refine mj_iload_n d_Ls_bindOn_19 rfl ?_
      refine mz_iconst d_Ls_bindOn_20 ?_
      refine mz_isub d_Ls_bindOn_21 ?_
      refine mj_iload_n d_Ls_bindOn_22 rfl ?_
      refine mz_isub d_Ls_bindOn_23 ?_
      refine mz_imul d_Ls_bindOn_24 ?_
      refine mz_iadd d_Ls_bindOn_25 ?_
      obtain ⟨sh, hsh2⟩ : ∃ sh : Nat, sh = mj_sh a + 2 * (a - 1 - b) := ⟨_, rfl⟩
      rw [show ((mj_sh a : Nat) : Int) + 2 * ((a : Int) - 1 - (b : Int)) = (sh : Int) by omega]
      refine mz_ist5 d_Ls_bindOn_26 (rfl) ?_
      refine mz_iconst d_Ls_bindOn_28 ?_
      refine mj_iload_n d_Ls_bindOn_29 rfl ?_
      refine mz_mmin d_Ls_bindOn_30 lk_Ls_64 (by omega) rfl (by omega) (by omega) ?_
      refine mj_aload_n d_Ls_bindOn_33 rfl ?_
      refine mj_get (ci := 7) (j := 2) d_Ls_bindOn_34 rfl w_Ls_28 (by decide) (by omega) (by assumption) rfl ?_
      refine mj_get (ci := 4) (j := 1) d_Ls_bindOn_37 rfl w_Ls_57 (by decide) (by omega) (by assumption) rfl ?_
      refine mj_iload_n d_Ls_bindOn_40 rfl ?_
      refine mz_iald d_Ls_bindOn_41 (by omega) (by assumption) (rfl) (by omega) ?_
      refine mj_aload_n d_Ls_bindOn_42 rfl ?_
      refine mj_get (ci := 7) (j := 2) d_Ls_bindOn_43 rfl w_Ls_28 (by decide) (by omega) (by assumption) rfl ?_
      refine mj_get (ci := 4) (j := 1) d_Ls_bindOn_46 rfl w_Ls_57 (by decide) (by omega) (by assumption) rfl ?_
      refine mj_iload_n d_Ls_bindOn_49 rfl ?_
      refine mz_iald d_Ls_bindOn_50 (by omega) (by assumption) (rfl) (by omega) ?_
      refine mz_mmin d_Ls_bindOn_51 lk_Ls_64 (by omega) rfl (by omega) (by omega) ?_
      refine mz_mmin d_Ls_bindOn_54 lk_Ls_64 (by omega) rfl (by omega) (by omega) ?_
      obtain ⟨mo, hmo⟩ : ∃ mo : Int, mo = mj_mo left F a b := ⟨_, rfl⟩
      have hmo' : min (min 3 left) (min (F a) (F b)) = mo := hmo.symm
      rw [hmo']
      have hmor : 0 ≤ mo ∧ mo ≤ 3 ∧ mo ≤ left ∧ mo ≤ F a ∧ mo ≤ F b := by omega
      refine mz_ist6 d_Ls_bindOn_57 (rfl) ?_
      refine mj_iload d_Ls_bindOn_59 rfl ?_
      refine mz_ist7 d_Ls_bindOn_61 (rfl) ?_
      have hshl : sh + 2 ≤ 30 := by
        have : ∀ a' : Nat, a' < 6 → ∀ b' : Nat, b' < a' → mj_sh a' + 2 * (a' - 1 - b') + 2 ≤ 30 := by decide
        have := this a (by omega) b (by omega)
        omega
      have hen : en A KM V (m + 1) a b left c F BN acc = chR (fun i acc => if 500 < acc.length then acc else en A KM V m a (b + 1) (left - (mo - i)) (c ||| (mo - i).toNat * 2 ^ sh) (mset F a b (mo - i)) (bsetN BN a b (mo - i).toNat) acc) (mo + 1).toNat 0 acc := by
        rw [en, if_neg (by omega), ← hmo, ← hsh2]
      rw [hen]
      have loop : ∀ (r i : Nat) (S1 : mj_S) (u : Nat) (acc1 : List Nat), i + r = (mo + 1).toNat → u < 4 → mj_fr S_15 S1 [24, 25, 26, 29, 30, 32, ca, ca + 2] → mj_en S1 A ca nC hC K V KC (mset F a b u) (bsetN BN a b u) acc1 → acc1.length ≤ 501 →
          mj_Ok Γ d M_Ls_bindOn 0 0 63 [.ref 20, .int (iZ a), .int (iZ b), .int (iZ left), .int (iZ c), .int (iZ sh), .int (iZ mo), .int (iZ (mo - i))] [] S1
            (mj_V fun S' => mj_fr S_15 S' [24, 25, 26, 29, 30, 32, ca, ca + 2] ∧ mj_en S' A ca nC hC K V KC F BN (chR (fun i acc => if 500 < acc.length then acc else en A KM V m a (b + 1) (left - (mo - i)) (c ||| (mo - i).toNat * 2 ^ sh) (mset F a b (mo - i)) (bsetN BN a b (mo - i).toNat) acc) r i acc1) ∧ (chR (fun i acc => if 500 < acc.length then acc else en A KM V m a (b + 1) (left - (mo - i)) (c ||| (mo - i).toNat * 2 ^ sh) (mset F a b (mo - i)) (bsetN BN a b (mo - i).toNat) acc) r i acc1).length ≤ 501) := by
        have fin : ∀ (S1 : mj_S) (u : Nat) (acc1 : List Nat) (x7 : Value), u < 4 → mj_fr S_15 S1 [24, 25, 26, 29, 30, 32, ca, ca + 2] → mj_en S1 A ca nC hC K V KC (mset F a b u) (bsetN BN a b u) acc1 → acc1.length ≤ 501 →
            mj_Ok Γ d M_Ls_bindOn 0 0 115 [.ref 20, .int (iZ a), .int (iZ b), .int (iZ left), .int (iZ c), .int (iZ sh), .int (iZ mo), x7] [] S1 (mj_V fun S' => mj_fr S_15 S' [24, 25, 26, 29, 30, 32, ca, ca + 2] ∧ mj_en S' A ca nC hC K V KC F BN acc1 ∧ acc1.length ≤ 501) := by
          intro S1 u acc1 x7 hu f1 e1 hl1
          obtain ⟨ew, el, ⟨B1, em, eB⟩, enu, ⟨GA1, eg⟩, D1, ec, eD⟩ := e1
          have l1 := el.1
          have m1 := em.1
          refine mj_aload_n d_Ls_bindOn_115 rfl ?_
          refine mj_get (ci := 7) (j := 2) d_Ls_bindOn_116 rfl w_Ls_28 (by decide) (by omega) (by assumption) rfl ?_
          refine mj_iload_n d_Ls_bindOn_119 rfl ?_
          refine mj_iload_n d_Ls_bindOn_120 rfl ?_
          refine mz_iconst d_Ls_bindOn_121 ?_
          refine mz_callV3v (ci := 4) d_Ls_bindOn_122 (m_Ml_bind (d := 1) (by omega) em (by omega) (by omega) (by omega)) cw_Ml_bind lk_Ls_74 rfl rfl (by omega) (by assumption) (by omega) rfl (fun S_122 h_122 => ?_)
          obtain ⟨g1, g2⟩ := h_122
          refine mz_vret d_Ls_bindOn_125 rfl ?_
          have eu : B1 (a * 6 + b) = (u : Int) := by rw [(eB (a * 6 + b) (by omega)).1, bsetN_at]
          rw [eu, mset_bind2 (by omega), mset_0] at g2
          have hz := hZ a b (by omega) (by omega) (Or.inr ⟨rfl, Nat.le_refl _⟩)
          refine ⟨f1.tr g1 (by simp) (by simp), ⟨g1.w.trans ew, ⟨g1.at el.1 (by simp), g1.at el.2 (by simp)⟩, ⟨_, g2, fun j hj => ?_⟩, enu.fr g1 (by simp) (by simp) (by simp), ⟨GA1, g1.at eg (by simp)⟩, D1, ec.fr g1 (by simp; omega), eD⟩, hl1⟩
          have w := bsetN_bind (v := 0) eB (by decide) j hj
          rw [bsetN_0 hz.1 hz.2] at w
          exact w
        intro r
        induction r with
        | zero =>
          intro i S1 u acc1 hi hu f1 e1 hl1
          have w := fin S1 u acc1 (.int (iZ (mo - i))) hu f1 e1 hl1
          refine mj_iload d_Ls_bindOn_63 rfl ?_
          refine mz_if_lt 115 d_Ls_bindOn_65 (by decide) (by omega) (fun c_65 => ?_) (fun c_65 => ?_)
          · exact w
          · omega
        | succ r ih2 =>
          intro i S1 u acc1 hi hu f1 e1 hl1
          have e10 := e1
          obtain ⟨ew, el, ⟨B1, em, eB⟩, enu, ⟨GA1, eg⟩, D1, ec, eD⟩ := e1
          have l1 := el.1
          have m1 := em.1
          have c1 := ec.1
          refine mj_iload d_Ls_bindOn_63 rfl ?_
          refine mz_if_lt 115 d_Ls_bindOn_65 (by decide) (by omega) (fun c_65 => ?_) (fun c_65 => ?_)
          · omega
          · refine mj_aload_n d_Ls_bindOn_68 rfl ?_
            refine mj_get (ci := 7) (j := 0) d_Ls_bindOn_69 rfl w_Ls_12 (by decide) (by omega) (by assumption) rfl ?_
            refine mz_callV0i (ci := 8) d_Ls_bindOn_72 (m_Ca_isOverfull (d := 0) ew ec (by omega)) cw_Ca_isOverfull lk_Ls_70 rfl rfl (by omega) (by assumption) (by omega) rfl (fun z_72 S_72 h_72 => ?_)
            obtain ⟨rfl, rfl⟩ := h_72
            by_cases hov : 500 < acc1.length
            · rw [if_pos hov]
              refine mz_if_ne 115 d_Ls_bindOn_75 (by decide) (by omega) (fun c_75 => ?_) (fun c_75 => ?_)
              · have w := fin S_72 u acc1 (.int (iZ (mo - i))) hu f1 e10 hl1
                rw [chR_full _ rfl (r + 1) i acc1 hov]
                exact w
              · omega
            · rw [if_neg hov]
              refine mz_if_ne 115 d_Ls_bindOn_75 (by decide) (by omega) (fun c_75 => ?_) (fun c_75 => ?_)
              · omega
              · obtain ⟨v, hv⟩ : ∃ v : Nat, mo - (i : Int) = v := ⟨(mo - i).toNat, by omega⟩
                have hvt : (mo - (i : Int)).toNat = v := by omega
                rw [hv]
                have hpow : (2 : Nat) ^ sh ≤ 2 ^ 28 := Nat.pow_le_pow_right (by decide) (by omega)
                have hvs : v * 2 ^ sh < 2 ^ 30 := by
                  have h3 : v ≤ 3 := by omega
                  have : v * 2 ^ sh ≤ 3 * 2 ^ sh := Nat.mul_le_mul_right _ h3
                  omega
                refine mj_aload_n d_Ls_bindOn_78 rfl ?_
                refine mj_get (ci := 7) (j := 2) d_Ls_bindOn_79 rfl w_Ls_28 (by decide) (by omega) (by assumption) rfl ?_
                refine mj_iload_n d_Ls_bindOn_82 rfl ?_
                refine mj_iload_n d_Ls_bindOn_83 rfl ?_
                refine mj_iload d_Ls_bindOn_84 rfl ?_
                refine mz_callV3v (ci := 4) d_Ls_bindOn_86 (m_Ml_bind (d := 1) (by omega) em (by omega) (by omega) (by omega)) cw_Ml_bind lk_Ls_74 rfl rfl (by omega) (by assumption) (by omega) rfl (fun S_86 h_86 => ?_)
                obtain ⟨g1, g2⟩ := h_86
                have eu : B1 (a * 6 + b) = (u : Int) := by rw [(eB (a * 6 + b) (by omega)).1, bsetN_at]
                rw [eu, mset_bind2 (by omega)] at g2
                have e86 : mj_en S_86 A ca nC hC K V KC (mset F a b v) (bsetN BN a b v) acc1 := ⟨g1.w.trans ew, ⟨g1.at el.1 (by simp), g1.at el.2 (by simp)⟩, ⟨_, g2, bsetN_bind eB (by omega)⟩, enu.fr g1 (by simp) (by simp) (by simp), ⟨GA1, g1.at eg (by simp)⟩, D1, ec.fr g1 (by simp; omega), eD⟩
                have hw86 := e86.1
                have l1 := e86.2.1.1
                refine mj_aload_n d_Ls_bindOn_89 rfl ?_
                refine mj_iload_n d_Ls_bindOn_90 rfl ?_
                refine mj_iload_n d_Ls_bindOn_91 rfl ?_
                refine mz_iconst d_Ls_bindOn_92 ?_
                refine mz_iadd d_Ls_bindOn_93 ?_
                refine mj_iload_n d_Ls_bindOn_94 rfl ?_
                refine mj_iload d_Ls_bindOn_95 rfl ?_
                refine mz_isub d_Ls_bindOn_97 ?_
                refine mj_iload d_Ls_bindOn_98 rfl ?_
                refine mj_iload d_Ls_bindOn_100 rfl ?_
                refine mj_iload d_Ls_bindOn_102 rfl ?_
                refine mz_ishl d_Ls_bindOn_104 (rfl) (rfl) (by omega) (by omega) ?_
                refine mz_ior d_Ls_bindOn_105 (rfl) (rfl) ?_
                have hih := ih a (b + 1) (c ||| v * 2 ^ sh) (d - 1) S_86 (left - v) (mset F a b v) (bsetN BN a b v) acc1 e86 ha (by omega) (by omega) (mj_or_lt hc hvs) (by omega) (mset_r hF (by omega)) (fun x y hxy hx6 hor => by
                  have hz := hZ x y hxy hx6 (by omega)
                  unfold bsetN
                  rw [va_up_ne _ _ (by omega), va_up_ne _ _ (by omega), va_up_ne _ _ (by omega), va_up_ne _ _ (by omega)]
                  exact hz) (by omega) (by omega)
                refine mz_callV4v (ci := 7) d_Ls_bindOn_106 (hih) cw_Ls_bindOn lk_Ls_77 rfl rfl (by omega) (by assumption) (by omega) rfl (fun S_106 h_106 => ?_)
                obtain ⟨g3, g4, g5⟩ := h_106
                refine mz_inc7 d_Ls_bindOn_109 (rfl) ?_
                refine mj_goto 63 d_Ls_bindOn_112 (by decide) ?_
                have w := ih2 (i + 1) S_106 v _ (by omega) (by omega) ((f1.tr g1 (l := [24, 25, 26, 29, 30, 32, ca, ca + 2]) (by simp) (by simp)).tr g3 (by simp) (by simp)) g4 g5
                rw [chR]
                rw [if_neg hov, hvt, hv, show (v : Int) + -1 = mo - ((i + 1 : Nat) : Int) by omega]
                exact w
      have w := loop (mo + 1).toNat 0 S_15 0 acc (by omega) (by decide) (mj_fr.rf _ _) (by
        have hz := hZ a b (by omega) (by omega) (Or.inr ⟨rfl, Nat.le_refl _⟩)
        have e1 : mset F a b ((0 : Nat) : Int) = F := mset_0 F a b
        rw [e1, bsetN_0 hz.1 hz.2]
        exact he0) (by omega)
      rw [show mo - ((0 : Nat) : Int) = mo by omega] at w
      exact w
    · have hba : b = a := by omega
      subst hba
      refine mj_aload_n d_Ls_bindOn_5 rfl ?_
      refine mj_iload_n d_Ls_bindOn_6 rfl ?_
      refine mj_iload_n d_Ls_bindOn_7 rfl ?_
      refine mj_iload d_Ls_bindOn_8 rfl ?_
      refine mz_callV3v (ci := 7) d_Ls_bindOn_10 (m_Ls_endRow (m := m) (d := d - 1) he0 hca hA ha hK hV hc hleft hacc (by omega) (fun h1 S2 f2 e2 => ih (b + 1) 0 c (d - 1 - 1) S2 left F BN acc e2 h1 (by omega) (by omega) hc hleft hF (fun x y hxy hx6 hor => hZ x y hxy hx6 (by omega)) hacc (by omega))) cw_Ls_endRow lk_Ls_50 rfl rfl (by omega) (by assumption) (by omega) rfl (fun S_10 h_10 => ?_)
      refine mz_vret d_Ls_bindOn_13 rfl ?_
      exact h_10
/-- the whole list of a formula -/
noncomputable def enF (n h : Nat) (KM : Nat → Nat) (V F : Nat → Int) : List Nat :=
  if 0 ≤ V 0 - h ∧ (V 0 - h) % 2 = 0 then en n KM V 50 0 0 ((V 0 - h) / 2) 0 F (fun _ => 0) [] else []
theorem mj_VAL_r (j : Nat) : 0 ≤ mj_VAL j ∧ mj_VAL j ≤ 4 := by
  by_cases h : j < 10
  · have : ∀ i, i < 10 → 0 ≤ mj_VAL i ∧ mj_VAL i ≤ 4 := by decide
    exact this j h
  · unfold mj_VAL
    rw [List.getD_eq_getElem?_getD, List.getElem?_eq_none (by simp; omega)]
    decide
theorem mj_vs_r {F : Nat → Int} : ∀ (m a : Nat), (∀ j, a ≤ j → j < a + m → 0 ≤ F j ∧ F j ≤ 4) → 0 ≤ mj_vs F m a ∧ mj_vs F m a ≤ 4 * m := by
  intro m
  induction m with
  | zero => intro a _; simp [mj_vs]
  | succ m ih =>
    intro a h
    have h1 := ih (a + 1) (fun j h1 h2 => h j (by omega) (by omega))
    have h2 := h a (Nat.le_refl _) (by omega)
    rw [mj_vs]
    omega
theorem m_Ls_fillDraft {d n h o0 : Nat} {S : mj_S} {Vz K0 F0 B0 GA KC D : Nat → Int} (hT : mj_tab Γ) (hw : S.2.1 = 65) (hl1 : S.1 20 = .inr (7, [.ref ca, .ref 24, .ref 27, .ref 31, .ref 32])) (hl2 : S.1 31 = .inl (0, 7, .inl (mj_z Vz))) (hm : mj_ml S 27 o0 K0 F0 B0) (hnu : mj_nvS S) (hg : S.1 32 = .inl (0, 6, .inl (mj_z GA))) (hc : mj_ca S ca KC D n h 0) (hca : 20 < ca ∧ ca + 2 < 24) (hn : 1 ≤ n ∧ n ≤ 6) (hh : h ≤ 1000) (hKC : ∀ j, j < n → KC j = KM j ∧ KM j < 9) (hd : 200 ≤ d) :
    mj_Met Γ d y_Ls_fillDraft M_Ls_fillDraft [.ref 20] S 0 0 (mj_V fun S' => mj_fr S S' [24, 25, 26, 20, 27, 28, 29, 30, 31, 32, ca, ca + 2] ∧ S'.2.1 = 65 ∧ mj_nvS S' ∧ (∃ o1 K1 F1 B1, mj_ml S' 27 o1 K1 F1 B1) ∧ (∃ V1, mj_ls S' ca V1) ∧ (∃ GA1, S'.1 32 = .inl (0, 6, .inl (mj_z GA1))) ∧
      ∃ V F, (∀ j, j < n → F j = mj_VAL (KM j)) ∧ (∀ a, a ≤ n → V a = mj_vs F (n - a) a) ∧ (enF n h KM V F).length ≤ 501 ∧ ∃ D', mj_ca S' ca KC D' n h (enF n h KM V F).length ∧ mj_caL D' (enF n h KM V F)) := by
  have c62 := hc.2.2.2
  refine mj_Met.of (by decide) ⟨rfl, rfl⟩ rfl rfl rfl ?_
  have m1 := hm.1
  refine mj_aload_n d_Ls_fillDraft_0 rfl ?_
  refine mj_get (ci := 7) (j := 2) d_Ls_fillDraft_1 rfl w_Ls_28 (by decide) (by omega) (by assumption) rfl ?_
  refine mj_aload_n d_Ls_fillDraft_4 rfl ?_
  refine mj_get (ci := 7) (j := 0) d_Ls_fillDraft_5 rfl w_Ls_12 (by decide) (by omega) (by assumption) rfl ?_
  refine mz_callV1v (ci := 4) d_Ls_fillDraft_8 (m_Ml_addAtomsOf (d := 2) hT (by omega) hm hc (by omega) hn.2 (fun j hj => ⟨KM j, (hKC j hj).2, (hKC j hj).1⟩) (by omega)) cw_Ml_addAtomsOf lk_Ls_39 rfl rfl (by omega) (by assumption) (by omega) rfl (fun S_8 h_8 => ?_)
  obtain ⟨g1, K1, F1, hm3, hKF⟩ := h_8
  have f2 : mj_fr S S_8 [20, 27, 28, 29, 30] := g1.tr (mj_fr.rf _ []) (by simp) (by simp)
  have hw10 := f2.w
  have e2 := g1.at hl1 (by simp)
  have hls : mj_ls S_8 ca Vz := ⟨e2, f2.at hl2 (by simp)⟩
  refine mj_aload_n d_Ls_fillDraft_11 rfl ?_
  refine mz_callV0v (ci := 7) d_Ls_fillDraft_12 (m_Ls_sumValences (d := 0) (by omega) hls hm3 hn.2) cw_Ls_sumValences lk_Ls_43 rfl rfl (by omega) (by assumption) (by omega) rfl (fun S_12 h_12 => ?_)
  obtain ⟨g2, V1, hls2, hV1⟩ := h_12
  have f3 : mj_fr S S_12 [20, 27, 28, 29, 30, 31] := f2.tr g2 (by simp) (by simp)
  have hw14 := f3.w
  have l1 := hls2.1
  have l2 := hls2.2
  have hm4 : mj_ml S_12 27 n K1 F1 (mj_fl B0 0 36) := hm3.fr g2 (by simp)
  have hc4 : mj_ca S_12 ca KC D n h 0 := hc.fr f3 (by simp; omega)
  have c1 := hc4.1
  have hFr : ∀ j, j < n → 0 ≤ F1 j ∧ F1 j ≤ 4 := fun j hj => by rw [(hKF j hj).2]; exact mj_VAL_r _
  have hVr : ∀ a, a ≤ n → 0 ≤ V1 a ∧ V1 a ≤ 4 * (n - a : Nat) := fun a ha => by rw [hV1 a ha]; exact mj_vs_r (n - a) a (fun j h1 h2 => hFr j (by omega))
  have hV0 := hVr 0 (by omega)
  have hFK : ∀ j, j < n → F1 j = mj_VAL (KM j) := fun j hj => by rw [(hKF j hj).2, (hKC j hj).1]; rfl
  have hen0 : mj_en S_12 n ca n h K1 V1 KC F1 (fun _ => 0) [] := ⟨by omega, hls2, ⟨_, hm4, fun j hj => ⟨by simp [mj_fl, hj], by simp⟩⟩, hnu.fr f3 (by simp) (by simp) (by simp), ⟨GA, f3.at hg (by simp)⟩, D, hc4, fun j _ h2 => absurd h2 (Nat.not_lt_zero j)⟩
  have none : ∀ S1 : mj_S, S1 = S_12 → ¬ (0 ≤ V1 0 - (h : Int) ∧ (V1 0 - (h : Int)) % 2 = 0) → mj_fr S S1 [24, 25, 26, 20, 27, 28, 29, 30, 31, 32, ca, ca + 2] ∧ S1.2.1 = 65 ∧ mj_nvS S1 ∧ (∃ o1 K1 F1 B1, mj_ml S1 27 o1 K1 F1 B1) ∧ (∃ V1, mj_ls S1 ca V1) ∧ (∃ GA1, S1.1 32 = .inl (0, 6, .inl (mj_z GA1))) ∧
      ∃ V F, (∀ j, j < n → F j = mj_VAL (KM j)) ∧ (∀ a, a ≤ n → V a = mj_vs F (n - a) a) ∧ (enF n h KM V F).length ≤ 501 ∧ ∃ D', mj_ca S1 ca KC D' n h (enF n h KM V F).length ∧ mj_caL D' (enF n h KM V F) := by
    intro S1 hS1 hno
    subst hS1
    have e : enF n h KM V1 F1 = [] := by unfold enF; rw [if_neg hno]
    exact ⟨f3.tr (mj_fr.rf _ []) (by simp) (by simp), by omega, hen0.2.2.2.1, ⟨_, _, _, _, hm4⟩, ⟨_, hls2⟩, hen0.2.2.2.2.1, V1, F1, hFK, hV1, by rw [e]; decide, D, by rw [e]; exact hc4, by rw [e]; exact fun j _ h2 => absurd h2 (Nat.not_lt_zero j)⟩
  refine mj_aload_n d_Ls_fillDraft_15 rfl ?_
  refine mj_get (ci := 7) (j := 3) d_Ls_fillDraft_16 rfl w_Ls_32 (by decide) (by omega) (by assumption) rfl ?_
  refine mz_iconst d_Ls_fillDraft_19 ?_
  refine mz_iald (j := 0) d_Ls_fillDraft_20 (by omega) (by assumption) (by omega) (by omega) ?_
  refine mj_aload_n d_Ls_fillDraft_21 rfl ?_
  refine mj_get (ci := 7) (j := 0) d_Ls_fillDraft_22 rfl w_Ls_12 (by decide) (by omega) (by assumption) rfl ?_
  refine mj_get (ci := 8) (j := 3) d_Ls_fillDraft_25 rfl w_Ls_46 (by decide) (by omega) (by assumption) rfl ?_
  refine mz_isub d_Ls_fillDraft_28 ?_
  refine mz_ist1 d_Ls_fillDraft_29 (rfl) ?_
  refine mj_iload_n d_Ls_fillDraft_30 rfl ?_
  refine mz_if_lt 49 d_Ls_fillDraft_31 (by decide) (by omega) (fun c_31 => ?_) (fun c_31 => ?_)
  · refine mz_vret d_Ls_fillDraft_49 rfl ?_
    exact none _ rfl (by omega)
  · refine mj_iload_n d_Ls_fillDraft_34 rfl ?_
    refine mz_iconst d_Ls_fillDraft_35 ?_
    refine mz_irem d_Ls_fillDraft_36 (by omega) (by omega) (by omega) (by omega) ?_
    refine mz_if_ne 49 d_Ls_fillDraft_37 (by decide) (by omega) (fun c_37 => ?_) (fun c_37 => ?_)
    · refine mz_vret d_Ls_fillDraft_49 rfl ?_
      exact none _ rfl (by omega)
    · have hb := m_Ls_endRow (Γ := Γ) (m := 49) (a := 0) (c := 0) (d := d - 1) (left := (V1 0 - (h : Int)) / 2) (KM := KM) hen0 hca hn.2 (by omega) (fun j hj => ⟨by rw [(hKF j hj).1]; exact (hKC j hj).1, by have := (hKC j hj).2; omega⟩) (fun j hj => by have := hVr j hj; omega) (by decide) (by omega) (by decide) (by omega)
        (fun h1 S2 f5 e5 => m_Ls_bindOn hca hn.2 (fun j hj => ⟨by rw [(hKF j hj).1]; exact (hKC j hj).1, by have := (hKC j hj).2; omega⟩) (fun j hj => by have := hVr j hj; omega) 49 1 0 0 (d - 1 - 1) S2 _ F1 (fun _ => 0) [] e5 (by omega) (by omega) (by omega) (by decide) (by omega) (fun j hj => by have := hFr j hj; omega) (fun _ _ _ _ _ => ⟨rfl, rfl⟩) (by decide) (by omega))
      refine mj_aload_n d_Ls_fillDraft_40 rfl ?_
      refine mz_iconst d_Ls_fillDraft_41 ?_
      refine mj_iload_n d_Ls_fillDraft_42 rfl ?_
      refine mz_iconst d_Ls_fillDraft_43 ?_
      refine mz_idiv d_Ls_fillDraft_44 (by omega) (by omega) (by omega) (by omega) ?_
      refine mz_iconst d_Ls_fillDraft_45 ?_
      refine mz_callV3v (ci := 7) d_Ls_fillDraft_46 (hb) cw_Ls_endRow lk_Ls_50 rfl rfl (by omega) (by assumption) (by omega) rfl (fun S_46 h_46 => ?_)
      obtain ⟨g5, g6, g7⟩ := h_46
      refine mz_vret d_Ls_fillDraft_49 rfl ?_
      have e : enF n h KM V1 F1 = en n KM V1 50 0 0 ((V1 0 - h) / 2) 0 F1 (fun _ => 0) [] := by unfold enF; rw [if_pos ⟨by omega, by omega⟩]
      obtain ⟨ew, el, ⟨B5, em, eB⟩, enu, eg, D5, ec, eD⟩ := g6
      exact ⟨f3.tr g5 (by simp) (by simp), ew, enu, ⟨_, _, _, _, em⟩, ⟨_, el⟩, eg, V1, F1, hFK, hV1, by rw [e]; exact g7, D5, by rw [e]; exact ec, by rw [e]; exact eD⟩
end BO
