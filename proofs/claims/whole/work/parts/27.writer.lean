/-! the writer of texts (13: cameFrom 14, ringStarts 15, ringEnds 16) -/
def lnA (p : Nat × (Nat → Int)) (c : Int) : Nat × (Nat → Int) := if p.1 < 60 then (p.1 + 1, va_up p.2 p.1 c) else p
def lnE (p : Nat × (Nat → Int)) (k : Nat) : Nat × (Nat → Int) := if mj_SND k = 0 then lnA p (mj_FST k) else lnA (lnA p (mj_FST k)) (mj_SND k)
def lnB (p : Nat × (Nat → Int)) (b : Int) : Nat × (Nat → Int) := if b = 2 then lnA p 61 else if b = 3 then lnA p 35 else p
def mj_tw (S : mj_S) (r : Nat) (CF RS RE : Nat → Int) : Prop := S.1 13 = .inr (5, [.ref 14, .ref 15, .ref 16, .int (iZ r)]) ∧ S.1 14 = .inl (0, 6, .inl (mj_z CF)) ∧ S.1 15 = .inl (0, 10, .inl (mj_z RS)) ∧ S.1 16 = .inl (0, 10, .inl (mj_z RE))
theorem mj_tw.fr {S S' : mj_S} {r : Nat} {CF RS RE : Nat → Int} {l : List Nat} (h : mj_tw S r CF RS RE) (hf : mj_fr S S' l) (h1 : 13 ∉ l) (h2 : 14 ∉ l) (h3 : 15 ∉ l) (h4 : 16 ∉ l) : mj_tw S' r CF RS RE := ⟨hf.at h.1 h1, hf.at h.2.1 h2, hf.at h.2.2.1 h3, hf.at h.2.2.2 h4⟩
def mj_lp (S : mj_S) (p : Nat × (Nat → Int)) : Prop := mj_ln S p.1 p.2
section TW
variable {Γ : mj_G} {d n r : Nat} {S : mj_S} {CF RS RE K F B : Nat → Int} {p : Nat × (Nat → Int)}
theorem m_Ln_addP (hw : S.2.1 = 65) (h : mj_lp S p) {c : Int} (hc : 0 ≤ c ∧ c < 65536) : mj_Met Γ d y_Ln_add M_Ln_add [.ref 1, .int (iZ c)] S 0 0 (mj_V fun S' => mj_fr S S' [1, 2] ∧ mj_lp S' (lnA p c)) := by
  refine mj_Met.more (fun o S' hp => ?_) (m_Ln_add (d := d) hw h hc)
  cases o with
  | inr x => exact hp
  | inl v =>
    obtain ⟨e, f1, h1⟩ := hp
    refine ⟨e, f1, ?_⟩
    unfold lnA
    by_cases q : p.1 < 60
    · rw [if_pos q] at h1 ⊢; exact h1
    · rw [if_neg q] at h1 ⊢; exact h1
theorem m_Ln_addElementP (hT : mj_tab Γ) (hw : S.2.1 = 65) (h : mj_lp S p) (hd : 1 ≤ d) {k : Nat} (hk : k < 10) : mj_Met Γ d y_Ln_addElement M_Ln_addElement [.ref 1, .int (iZ k)] S 0 0 (mj_V fun S' => mj_fr S S' [1, 2] ∧ mj_lp S' (lnE p k)) := by
  have h1 := h.1
  have r1 := mj_FST_r k
  have r2 := mj_SND_r k
  refine mj_Met.of (by decide) ⟨rfl, rfl⟩ rfl rfl rfl ?_
  refine mj_aload_n d_Ln_addElement_0 rfl ?_
  refine mj_gets (r := 1) d_Ln_addElement_1 (by decide) w_Ln_19 ?_
  refine mj_iload_n d_Ln_addElement_4 rfl ?_
  refine mz_crot d_Ln_addElement_5 (by decide) rfl (hT.2.1) (rfl) (by omega) ?_
  refine mz_callV1v (ci := 1) d_Ln_addElement_6 (m_Ln_addP (d := 0) hw h (by omega)) cw_Ln_add lk_Ln_29 rfl rfl (by omega) (by assumption) (by omega) rfl (fun S_6 h_6 => ?_)
  obtain ⟨f1, h6⟩ := h_6
  have hw6 : S_6.2.1 = 65 := f1.w.trans hw
  have h61 := h6.1
  refine mj_gets (r := 2) d_Ln_addElement_9 (by decide) w_Ln_26 ?_
  refine mj_iload_n d_Ln_addElement_12 rfl ?_
  refine mz_crot d_Ln_addElement_13 (by decide) rfl (hT.2.2) (rfl) (by omega) ?_
  refine mz_if_eq 26 d_Ln_addElement_14 (by decide) (by omega) (fun c_14 => ?_) (fun c_14 => ?_)
  · refine mz_vret d_Ln_addElement_26 rfl ?_
    refine ⟨f1, ?_⟩
    unfold lnE
    rw [if_pos c_14]
    exact h6
  · refine mj_aload_n d_Ln_addElement_17 rfl ?_
    refine mj_gets (r := 2) d_Ln_addElement_18 (by decide) w_Ln_26 ?_
    refine mj_iload_n d_Ln_addElement_21 rfl ?_
    refine mz_crot d_Ln_addElement_22 (by decide) rfl (hT.2.2) (rfl) (by omega) ?_
    refine mz_callV1v (ci := 1) d_Ln_addElement_23 (m_Ln_addP (d := 0) hw6 h6 (by omega)) cw_Ln_add lk_Ln_29 rfl rfl (by omega) (by assumption) (by omega) rfl (fun S_23 h_23 => ?_)
    obtain ⟨f2, h7⟩ := h_23
    refine mz_vret d_Ln_addElement_26 rfl ?_
    refine ⟨f1.tr f2 (by simp) (by simp), ?_⟩
    unfold lnE
    rw [if_neg c_14]
    exact h7
theorem m_Ln_addBondP (hw : S.2.1 = 65) (h : mj_lp S p) (hd : 1 ≤ d) {b : Int} (hb : 0 ≤ b ∧ b ≤ 100) : mj_Met Γ d y_Ln_addBond M_Ln_addBond [.ref 1, .int (iZ b)] S 0 0 (mj_V fun S' => mj_fr S S' [1, 2] ∧ mj_lp S' (lnB p b)) := by
  have h1 := h.1
  refine mj_Met.of (by decide) ⟨rfl, rfl⟩ rfl rfl rfl ?_
  unfold lnB
  refine mj_iload_n d_Ln_addBond_0 rfl ?_
  refine mz_iconst d_Ln_addBond_1 ?_
  refine mz_icmp_ne 14 d_Ln_addBond_2 (by decide) (by omega) (by omega) (fun c_2 => ?_) (fun c_2 => ?_)
  · refine mj_iload_n d_Ln_addBond_14 rfl ?_
    refine mz_iconst d_Ln_addBond_15 ?_
    refine mz_icmp_ne 25 d_Ln_addBond_16 (by decide) (by omega) (by omega) (fun c_16 => ?_) (fun c_16 => ?_)
    · refine mz_vret d_Ln_addBond_25 rfl ?_
      rw [if_neg c_2, if_neg c_16]
      exact ⟨mj_fr.rf _ _, h⟩
    · refine mj_aload_n d_Ln_addBond_19 rfl ?_
      refine mz_bipush d_Ln_addBond_20 (by decide) ?_
      refine mz_callV1v (ci := 1) d_Ln_addBond_22 (m_Ln_addP (d := 0) hw h (by omega)) cw_Ln_add lk_Ln_29 rfl rfl (by omega) (by assumption) (by omega) rfl (fun S_22 h_22 => ?_)
      refine mz_vret d_Ln_addBond_25 rfl ?_
      rw [if_neg c_2, if_pos c_16]
      exact h_22
  · refine mj_aload_n d_Ln_addBond_5 rfl ?_
    refine mz_bipush d_Ln_addBond_6 (by decide) ?_
    refine mz_callV1v (ci := 1) d_Ln_addBond_8 (m_Ln_addP (d := 0) hw h (by omega)) cw_Ln_add lk_Ln_29 rfl rfl (by omega) (by assumption) (by omega) rfl (fun S_8 h_8 => ?_)
    refine mj_goto 25 d_Ln_addBond_11 (by decide) ?_
    refine mz_vret d_Ln_addBond_25 rfl ?_
    rw [if_pos c_2]
    exact h_8
theorem m_Tw_lastFurtherOn (hw : S.2.1 = 65) (ht : mj_tw S r CF RS RE) (hn : n ≤ 6) {a : Int} (ha : iR a) (ha2 : a ≠ -2) (hC : ∀ j, j < n → iR (CF j)) (hO : ∀ j, n ≤ j → j < 6 → CF j = -2) : mj_Met Γ d y_Tw_lastFurtherOn M_Tw_lastFurtherOn [.ref 13, .int (iZ a)] S 0 0 (mj_I fun z S' => S' = S ∧ ((∃ b : Nat, z = b ∧ b < n ∧ CF b = a ∧ ∀ j, b < j → j < n → CF j ≠ a) ∨ (z = -1 ∧ ∀ j, j < n → CF j ≠ a))) := by
  obtain ⟨t1, t2, t3, t4⟩ := ht
  have hC6 : ∀ j, j < 6 → iR (CF j) := fun j hj => by
    by_cases q : j < n
    · exact hC j q
    · rw [hO j (by omega) hj]; decide
  refine mj_Met.of (by decide) ⟨rfl, rfl⟩ rfl rfl rfl ?_
  refine mz_iconst d_Tw_lastFurtherOn_0 ?_
  refine mz_ist2 d_Tw_lastFurtherOn_1 (rfl) ?_
  have loop : ∀ b : Nat, b ≤ 6 → (∀ j, b ≤ j → j < n → CF j ≠ a) → mj_Ok Γ d M_Tw_lastFurtherOn 0 0 2 [.ref 13, .int (iZ a), .int (iZ ((b : Int) - 1))] [] S (mj_I fun z S' => S' = S ∧ ((∃ b : Nat, z = b ∧ b < n ∧ CF b = a ∧ ∀ j, b < j → j < n → CF j ≠ a) ∨ (z = -1 ∧ ∀ j, j < n → CF j ≠ a))) := by
    intro b
    induction b with
    | zero =>
      intro hb hj
      refine mj_iload_n d_Tw_lastFurtherOn_2 rfl ?_
      refine mz_if_lt 24 d_Tw_lastFurtherOn_3 (by decide) (by omega) (fun c_3 => ?_) (fun c_3 => ?_)
      · refine mz_iconst d_Tw_lastFurtherOn_24 ?_
        refine mz_iret d_Tw_lastFurtherOn_25 rfl (rfl) ?_
        exact ⟨rfl, Or.inr ⟨rfl, fun j h => hj j (Nat.zero_le j) h⟩⟩
      · omega
    | succ b ih =>
      intro hb hj
      have hcb := hC6 b (by omega)
      refine mj_iload_n d_Tw_lastFurtherOn_2 rfl ?_
      refine mz_if_lt 24 d_Tw_lastFurtherOn_3 (by decide) (by omega) (fun c_3 => ?_) (fun c_3 => ?_)
      · omega
      · refine mj_aload_n d_Tw_lastFurtherOn_6 rfl ?_
        refine mj_get (ci := 5) (j := 0) d_Tw_lastFurtherOn_7 rfl w_Tw_9 (by decide) (by omega) (by assumption) rfl ?_
        refine mj_iload_n d_Tw_lastFurtherOn_10 rfl ?_
        refine mz_iald (j := b) d_Tw_lastFurtherOn_11 (by omega) (by assumption) (by omega) (by omega) ?_
        refine mj_iload_n d_Tw_lastFurtherOn_12 rfl ?_
        refine mz_icmp_ne 18 d_Tw_lastFurtherOn_13 (by decide) (by omega) (by omega) (fun c_13 => ?_) (fun c_13 => ?_)
        · refine mz_inc2 d_Tw_lastFurtherOn_18 (rfl) ?_
          refine mj_goto 2 d_Tw_lastFurtherOn_21 (by decide) ?_
          rw [show ((b + 1 : Nat) : Int) - 1 + -1 = (b : Int) - 1 by omega]
          exact ih (by omega) (fun j h1 h2 => by
            by_cases e : j = b
            · rw [e]; exact c_13
            · exact hj j (by omega) h2)
        · refine mj_iload_n d_Tw_lastFurtherOn_16 rfl ?_
          refine mz_iret d_Tw_lastFurtherOn_17 rfl (rfl) ?_
          have hbn : b < n := by
            by_cases q : b < n
            · exact q
            · exact absurd (c_13.symm.trans (hO b (by omega) (by omega))) ha2
          exact ⟨rfl, Or.inl ⟨b, by omega, hbn, c_13, fun j h1 h2 => hj j (by omega) h2⟩⟩
  have w := loop 6 (Nat.le_refl _) (fun j h1 h2 => by omega)
  rw [show ((6 : Nat) : Int) - 1 = 5 from rfl] at w
  exact w
/-- the rings of atom a, from digit i on -/
def prI (B RS RE : Nat → Int) (a : Int) : Nat → Nat → Nat × (Nat → Int) → Nat × (Nat → Int)
  | 0, _, p => p
  | q + 1, i, p => prI B RS RE a q (i + 1) (if RS i = a ∨ RE i = a then lnA (lnB p (B ((RS i).toNat * 6 + (RE i).toNat))) (48 + i) else p)
theorem m_Tw_putRings (hw : S.2.1 = 65) (ht : mj_tw S r CF RS RE) (hm : mj_ml S 33 n K F B) (hl : mj_lp S p) (hr : r ≤ 9) {a : Int} (ha : iR a) (hR : ∀ j, 1 ≤ j → j ≤ r → (∃ x : Nat, RS j = x ∧ x < 6) ∧ ∃ x : Nat, RE j = x ∧ x < 6) (hB : ∀ j, j < 36 → 0 ≤ B j ∧ B j ≤ 3) (hd : 2 ≤ d) :
    mj_Met Γ d y_Tw_putRings M_Tw_putRings [.ref 13, .ref 1, .ref 33, .int (iZ a)] S 0 0 (mj_V fun S' => mj_fr S S' [1, 2] ∧ mj_lp S' (prI B RS RE a r 1 p)) := by
  refine mj_Met.of (by decide) ⟨rfl, rfl⟩ rfl rfl rfl ?_
  refine mz_iconst d_Tw_putRings_0 ?_
  refine mz_ist4 d_Tw_putRings_1 (rfl) ?_
  have loop : ∀ (q i : Nat) (S1 : mj_S) (p1 : Nat × (Nat → Int)), i + q = r + 1 → 1 ≤ i → mj_fr S S1 [1, 2] → mj_lp S1 p1 → mj_Ok Γ d M_Tw_putRings 0 0 3 [.ref 13, .ref 1, .ref 33, .int (iZ a), .int (iZ i)] [] S1 (mj_V fun S' => mj_fr S S' [1, 2] ∧ mj_lp S' (prI B RS RE a q i p1)) := by
    intro q
    induction q with
    | zero =>
      intro i S1 p1 hi h1 f1 hp
      have hw1 : S1.2.1 = 65 := f1.w.trans hw
      obtain ⟨t1, t2, t3, t4⟩ := ht.fr f1 (by simp) (by simp) (by simp) (by simp)
      refine mj_iload d_Tw_putRings_3 rfl ?_
      refine mj_aload_n d_Tw_putRings_5 rfl ?_
      refine mj_get (ci := 5) (j := 3) d_Tw_putRings_6 rfl w_Tw_21 (by decide) (by omega) (by assumption) rfl ?_
      refine mz_icmp_gt 72 d_Tw_putRings_9 (by decide) (by omega) (by omega) (fun c_9 => ?_) (fun c_9 => ?_)
      · refine mz_vret d_Tw_putRings_72 rfl ?_
        exact ⟨f1, hp⟩
      · omega
    | succ q ih =>
      intro i S1 p1 hi h1 f1 hp
      have hw1 : S1.2.1 = 65 := f1.w.trans hw
      obtain ⟨t1, t2, t3, t4⟩ := ht.fr f1 (by simp) (by simp) (by simp) (by simp)
      have hm1 : mj_ml S1 33 n K F B := hm.fr f1 (by simp)
      have m1 := hm1.1
      have l1 := hp.1
      obtain ⟨⟨x, hx, hx6⟩, ⟨y, hy, hy6⟩⟩ := hR i h1 (by omega)
      have hb := hB (x * 6 + y) (by omega)
      have put : (RS i = a ∨ RE i = a) → mj_Ok Γ d M_Tw_putRings 0 0 34 [.ref 13, .ref 1, .ref 33, .int (iZ a), .int (iZ i)] [] S1 (mj_V fun S' => mj_fr S S' [1, 2] ∧ mj_lp S' (prI B RS RE a (q + 1) i p1)) := by
        intro hor
        refine mj_aload_n d_Tw_putRings_34 rfl ?_
        refine mj_aload_n d_Tw_putRings_35 rfl ?_
        refine mj_aload_n d_Tw_putRings_36 rfl ?_
        refine mj_get (ci := 5) (j := 1) d_Tw_putRings_37 rfl w_Tw_15 (by decide) (by omega) (by assumption) rfl ?_
        refine mj_iload d_Tw_putRings_40 rfl ?_
        refine mz_iald d_Tw_putRings_42 (by omega) (by assumption) (rfl) (by omega) ?_
        rw [hx]
        refine mj_aload_n d_Tw_putRings_43 rfl ?_
        refine mj_get (ci := 5) (j := 2) d_Tw_putRings_44 rfl w_Tw_18 (by decide) (by omega) (by assumption) rfl ?_
        refine mj_iload d_Tw_putRings_47 rfl ?_
        refine mz_iald d_Tw_putRings_49 (by omega) (by assumption) (rfl) (by omega) ?_
        rw [hy]
        refine mz_callV2i (ci := 4) d_Tw_putRings_50 (m_Ml_between (d := 0) hw1 hm1 hx6 hy6) cw_Ml_between lk_Tw_49 rfl rfl (by omega) (by assumption) (by omega) rfl (fun z_50 S_50 h_50 => ?_)
        obtain ⟨rfl, rfl⟩ := h_50
        refine mz_callV1v (ci := 1) d_Tw_putRings_53 (m_Ln_addBondP (d := 1) hw1 hp (by omega) (by omega)) cw_Ln_addBond lk_Tw_76 rfl rfl (by omega) (by assumption) (by omega) rfl (fun S_53 h_53 => ?_)
        obtain ⟨g1, g2⟩ := h_53
        have hw2 : S_53.2.1 = 65 := g1.w.trans hw1
        have t1 := g1.at t1 (by simp)
        have l1 := g2.1
        refine mj_aload_n d_Tw_putRings_56 rfl ?_
        refine mz_bipush d_Tw_putRings_57 (by decide) ?_
        refine mj_iload d_Tw_putRings_59 rfl ?_
        refine mz_iadd d_Tw_putRings_61 ?_
        refine mj_i2c d_Tw_putRings_62 ?_
        have ec : ((iZ (48 + (i : Int))).toUInt32 % 65536).toInt32 = iZ (48 + (i : Int)) := by
          have e1 := pk_char (iZ (48 + (i : Int)))
          have e2 : iZ (48 + (i : Int)) = nI (48 + i) := rfl
          rw [e1, e2, pk_tn (by omega), Nat.mod_eq_of_lt (by omega)]
        rw [ec]
        refine mz_callV1v (ci := 1) d_Tw_putRings_63 (m_Ln_addP (d := 0) hw2 g2 (by omega)) cw_Ln_add lk_Tw_72 rfl rfl (by omega) (by assumption) (by omega) rfl (fun S_63 h_63 => ?_)
        obtain ⟨g3, g4⟩ := h_63
        refine mz_inc4 d_Tw_putRings_66 (rfl) ?_
        refine mj_goto 3 d_Tw_putRings_69 (by decide) ?_
        have w := ih (i + 1) S_63 _ (by omega) (by omega) ((f1.tr g1 (l := [1, 2]) (by simp) (by simp)).tr g3 (by simp) (by simp)) g4
        rw [prI, if_pos hor, hx, hy]
        exact w
      have rx : iR (RS i) := by rw [hx]; omega
      have ry : iR (RE i) := by rw [hy]; omega
      refine mj_iload d_Tw_putRings_3 rfl ?_
      refine mj_aload_n d_Tw_putRings_5 rfl ?_
      refine mj_get (ci := 5) (j := 3) d_Tw_putRings_6 rfl w_Tw_21 (by decide) (by omega) (by assumption) rfl ?_
      refine mz_icmp_gt 72 d_Tw_putRings_9 (by decide) (by omega) (by omega) (fun c_9 => ?_) (fun c_9 => ?_)
      · omega
      · refine mj_aload_n d_Tw_putRings_12 rfl ?_
        refine mj_get (ci := 5) (j := 1) d_Tw_putRings_13 rfl w_Tw_15 (by decide) (by omega) (by assumption) rfl ?_
        refine mj_iload d_Tw_putRings_16 rfl ?_
        refine mz_iald d_Tw_putRings_18 (by omega) (by assumption) (rfl) (by omega) ?_
        refine mj_iload_n d_Tw_putRings_19 rfl ?_
        refine mz_icmp_eq 34 d_Tw_putRings_20 (by decide) (by omega) (by omega) (fun c_20 => ?_) (fun c_20 => ?_)
        · exact put (Or.inl c_20)
        · refine mj_aload_n d_Tw_putRings_23 rfl ?_
          refine mj_get (ci := 5) (j := 2) d_Tw_putRings_24 rfl w_Tw_18 (by decide) (by omega) (by assumption) rfl ?_
          refine mj_iload d_Tw_putRings_27 rfl ?_
          refine mz_iald d_Tw_putRings_29 (by omega) (by assumption) (rfl) (by omega) ?_
          refine mj_iload_n d_Tw_putRings_30 rfl ?_
          refine mz_icmp_ne 66 d_Tw_putRings_31 (by decide) (by omega) (by omega) (fun c_31 => ?_) (fun c_31 => ?_)
          · refine mz_inc4 d_Tw_putRings_66 (rfl) ?_
            refine mj_goto 3 d_Tw_putRings_69 (by decide) ?_
            have w := ih (i + 1) S1 p1 (by omega) (by omega) f1 hp
            rw [prI, if_neg (fun z => z.elim c_20 c_31)]
            exact w
          · exact put (Or.inr c_31)
  exact loop r 1 S p (by omega) (by omega) (mj_fr.rf _ _) hl
/-- a bond that is met becomes a ring -/
noncomputable def mtR (a b : Int) (r : Nat) (RS RE : Nat → Int) : Nat × (Nat → Int) × (Nat → Int) :=
  @ite _ (∃ j, 1 ≤ j ∧ j ≤ r ∧ RS j = b ∧ RE j = a) (Classical.propDecidable _) (r, RS, RE) (if r < 9 then (r + 1, va_up RS (r + 1) a, va_up RE (r + 1) b) else (r, RS, RE))
theorem m_Tw_meetRing (hw : S.2.1 = 65) (ht : mj_tw S r CF RS RE) (hr : r ≤ 9) {a b : Int} (ha : iR a) (hb : iR b) (hR : ∀ j, 1 ≤ j → j ≤ r → iR (RS j) ∧ iR (RE j)) :
    mj_Met Γ d y_Tw_meetRing M_Tw_meetRing [.ref 13, .int (iZ a), .int (iZ b)] S 0 0 (mj_V fun S' => mj_fr S S' [13, 15, 16] ∧ mj_tw S' (mtR a b r RS RE).1 CF (mtR a b r RS RE).2.1 (mtR a b r RS RE).2.2) := by
  have ht0 := ht
  obtain ⟨t1, t2, t3, t4⟩ := ht
  refine mj_Met.of (by decide) ⟨rfl, rfl⟩ rfl rfl rfl ?_
  refine mz_iconst d_Tw_meetRing_0 ?_
  refine mz_ist3 d_Tw_meetRing_1 (rfl) ?_
  have loop : ∀ (q i : Nat), i + q = r + 1 → 1 ≤ i → (∀ j, 1 ≤ j → j < i → ¬ (RS j = b ∧ RE j = a)) → mj_Ok Γ d M_Tw_meetRing 0 0 2 [.ref 13, .int (iZ a), .int (iZ b), .int (iZ i)] [] S (mj_V fun S' => mj_fr S S' [13, 15, 16] ∧ mj_tw S' (mtR a b r RS RE).1 CF (mtR a b r RS RE).2.1 (mtR a b r RS RE).2.2) := by
    intro q
    induction q with
    | zero =>
      intro i hi h1 hno
      have hn : ¬ ∃ j, 1 ≤ j ∧ j ≤ r ∧ RS j = b ∧ RE j = a := fun ⟨j, a1, a2, a3⟩ => hno j a1 (by omega) a3
      refine mj_iload_n d_Tw_meetRing_2 rfl ?_
      refine mj_aload_n d_Tw_meetRing_3 rfl ?_
      refine mj_get (ci := 5) (j := 3) d_Tw_meetRing_4 rfl w_Tw_21 (by decide) (by omega) (by assumption) rfl ?_
      refine mz_icmp_gt 37 d_Tw_meetRing_7 (by decide) (by omega) (by omega) (fun c_7 => ?_) (fun c_7 => ?_)
      · refine mj_aload_n d_Tw_meetRing_37 rfl ?_
        refine mj_get (ci := 5) (j := 3) d_Tw_meetRing_38 rfl w_Tw_21 (by decide) (by omega) (by assumption) rfl ?_
        refine mz_bipush d_Tw_meetRing_41 (by decide) ?_
        refine mz_icmp_ge 76 d_Tw_meetRing_43 (by decide) (by omega) (by omega) (fun c_43 => ?_) (fun c_43 => ?_)
        · refine mz_vret d_Tw_meetRing_76 rfl ?_
          rw [show mtR a b r RS RE = (r, RS, RE) by unfold mtR; rw [if_neg hn, if_neg (by omega)]]
          exact ⟨mj_fr.rf _ _, ht0⟩
        · refine mj_aload_n d_Tw_meetRing_46 rfl ?_
          refine mj_dup d_Tw_meetRing_47 rfl ?_
          refine mj_get (ci := 5) (j := 3) d_Tw_meetRing_48 rfl w_Tw_21 (by decide) (by omega) (by assumption) rfl ?_
          refine mz_iconst d_Tw_meetRing_51 ?_
          refine mz_iadd d_Tw_meetRing_52 ?_
          refine mz_put (ci := 5) (j := 3) d_Tw_meetRing_53 rfl w_Tw_21 (by decide) rfl (by omega) (by assumption) (Nat.le_of_ble_eq_true rfl) (mj_fit_int _) rfl (fun S_53 w_53 e_53 f_53 => ?_)
          have t2 := f_53.at t2 (by simp; try omega)
          have t3 := f_53.at t3 (by simp; try omega)
          have t4 := f_53.at t4 (by simp; try omega)
          refine mj_aload_n d_Tw_meetRing_56 rfl ?_
          refine mj_get (ci := 5) (j := 1) d_Tw_meetRing_57 rfl w_Tw_15 (by decide) (by omega) (by assumption) rfl ?_
          refine mj_aload_n d_Tw_meetRing_60 rfl ?_
          refine mj_get (ci := 5) (j := 3) d_Tw_meetRing_61 rfl w_Tw_21 (by decide) (by omega) (by assumption) rfl ?_
          refine mj_iload_n d_Tw_meetRing_64 rfl ?_
          refine mz_iast (j := r + 1) d_Tw_meetRing_65 (by omega) (by assumption) (by omega) (by omega) (fun S_65 w_65 e_65 f_65 => ?_)
          have e_53 := f_65.at e_53 (by simp; try omega)
          have t2 := f_65.at t2 (by simp; try omega)
          have t4 := f_65.at t4 (by simp; try omega)
          refine mj_aload_n d_Tw_meetRing_66 rfl ?_
          refine mj_get (ci := 5) (j := 2) d_Tw_meetRing_67 rfl w_Tw_18 (by decide) (by omega) (by assumption) rfl ?_
          refine mj_aload_n d_Tw_meetRing_70 rfl ?_
          refine mj_get (ci := 5) (j := 3) d_Tw_meetRing_71 rfl w_Tw_21 (by decide) (by omega) (by assumption) rfl ?_
          refine mj_iload_n d_Tw_meetRing_74 rfl ?_
          refine mz_iast (j := r + 1) d_Tw_meetRing_75 (by omega) (by assumption) (by omega) (by omega) (fun S_75 w_75 e_75 f_75 => ?_)
          have e_53 := f_75.at e_53 (by simp; try omega)
          have t2 := f_75.at t2 (by simp; try omega)
          have e_65 := f_75.at e_65 (by simp; try omega)
          refine mz_vret d_Tw_meetRing_76 rfl ?_
          rw [show mtR a b r RS RE = (r + 1, va_up RS (r + 1) a, va_up RE (r + 1) b) by unfold mtR; rw [if_neg hn, if_pos (by omega)]]
          exact ⟨(f_53.tr f_65 (l := [13, 15]) (by simp) (by simp)).tr f_75 (by simp) (by simp), e_53, t2, e_65, e_75⟩
      · omega
    | succ q ih =>
      intro i hi h1 hno
      have hri := hR i h1 (by omega)
      have next : ¬ (RS i = b ∧ RE i = a) → mj_Ok Γ d M_Tw_meetRing 0 0 31 [.ref 13, .int (iZ a), .int (iZ b), .int (iZ i)] [] S (mj_V fun S' => mj_fr S S' [13, 15, 16] ∧ mj_tw S' (mtR a b r RS RE).1 CF (mtR a b r RS RE).2.1 (mtR a b r RS RE).2.2) := by
        intro hq
        refine mz_inc3 d_Tw_meetRing_31 (rfl) ?_
        refine mj_goto 2 d_Tw_meetRing_34 (by decide) ?_
        exact ih (i + 1) (by omega) (by omega) (fun j a1 a2 => by
          by_cases e : j = i
          · rw [e]; exact hq
          · exact hno j a1 (by omega))
      refine mj_iload_n d_Tw_meetRing_2 rfl ?_
      refine mj_aload_n d_Tw_meetRing_3 rfl ?_
      refine mj_get (ci := 5) (j := 3) d_Tw_meetRing_4 rfl w_Tw_21 (by decide) (by omega) (by assumption) rfl ?_
      refine mz_icmp_gt 37 d_Tw_meetRing_7 (by decide) (by omega) (by omega) (fun c_7 => ?_) (fun c_7 => ?_)
      · omega
      · refine mj_aload_n d_Tw_meetRing_10 rfl ?_
        refine mj_get (ci := 5) (j := 1) d_Tw_meetRing_11 rfl w_Tw_15 (by decide) (by omega) (by assumption) rfl ?_
        refine mj_iload_n d_Tw_meetRing_14 rfl ?_
        refine mz_iald d_Tw_meetRing_15 (by omega) (by assumption) (rfl) (by omega) ?_
        refine mj_iload_n d_Tw_meetRing_16 rfl ?_
        refine mz_icmp_ne 31 d_Tw_meetRing_17 (by decide) (by omega) (by omega) (fun c_17 => ?_) (fun c_17 => ?_)
        · exact next (fun z => c_17 z.1)
        · refine mj_aload_n d_Tw_meetRing_20 rfl ?_
          refine mj_get (ci := 5) (j := 2) d_Tw_meetRing_21 rfl w_Tw_18 (by decide) (by omega) (by assumption) rfl ?_
          refine mj_iload_n d_Tw_meetRing_24 rfl ?_
          refine mz_iald d_Tw_meetRing_25 (by omega) (by assumption) (rfl) (by omega) ?_
          refine mj_iload_n d_Tw_meetRing_26 rfl ?_
          refine mz_icmp_ne 31 d_Tw_meetRing_27 (by decide) (by omega) (by omega) (fun c_27 => ?_) (fun c_27 => ?_)
          · exact next (fun z => c_27 z.2)
          · refine mz_vret d_Tw_meetRing_30 rfl ?_
            rw [show mtR a b r RS RE = (r, RS, RE) by unfold mtR; rw [if_pos ⟨i, h1, by omega, c_17, c_27⟩]]
            exact ⟨mj_fr.rf _ _, ht0⟩
  exact loop r 1 (by omega) (by omega) (fun j a1 a2 => by omega)
end TW
