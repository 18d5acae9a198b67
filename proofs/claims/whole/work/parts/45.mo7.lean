/-! the reference: its state between calls; a formula read -/
def mo_gl (o : Nat) : Nat := [6, 15, 6, 16, 7515, 7, 6, 6, 36, 15, 10, 60, 10, 10, 6, 36, 6, 6, 6, 6].getD (o - 44) 0
def mo_gt (o : Nat) : Nat := [0, 0, 0, 0, 0, 0, 2, 0, 0, 0, 0, 0, 0, 0, 0, 0, 0, 2, 2, 0].getD (o - 44) 0
def mo_ga (S : mj_S) (o : Nat) : Prop := ∃ A : Nat → Int, S.1 o = .inl (mo_gt o, mo_gl o, .inl (mj_z A))
/-- the working rows of the reference: what lies in them matters to nobody between calls -/
def mo_gb (S : mj_S) : Prop := (∀ o, 44 ≤ o → o ≤ 63 → mo_ga S o) ∧ ∃ Cd, S.1 45 = .inl (0, 15, .inl (mj_z Cd)) ∧ ∀ j, j < 15 → ∃ v : Nat, Cd j = v ∧ v < 4
theorem mo_gb.fr {S S' : mj_S} {l : List Nat} (h : mo_gb S) (hf : mj_fr S S' l) (h42 : 45 ∉ l) (hn : ∀ o ∈ l, 44 ≤ o → o ≤ 63 → mo_ga S' o) : mo_gb S' := by
  refine ⟨fun o h1 h2 => ?_, ?_⟩
  · by_cases e : o ∈ l
    · exact hn o e h1 h2
    · obtain ⟨A, hA⟩ := h.1 o h1 h2
      exact ⟨A, hf.at hA e⟩
  · obtain ⟨Cd, h1, h2⟩ := h.2
    exact ⟨Cd, hf.at h1 h42, h2⟩
theorem mo_gb.fr2 {S S' : mj_S} {l : List Nat} (h : mo_gb S) (hf : mj_fr S S' l) (hn : ∀ o ∈ l, 44 ≤ o → o ≤ 63 → mo_ga S' o) (h42 : ∃ Cd, S'.1 45 = .inl (0, 15, .inl (mj_z Cd)) ∧ ∀ j, j < 15 → ∃ v : Nat, Cd j = v ∧ v < 4) : mo_gb S' := by
  refine ⟨fun o h1 h2 => ?_, h42⟩
  by_cases e : o ∈ l
  · exact hn o e h1 h2
  · obtain ⟨A, hA⟩ := h.1 o h1 h2
    exact ⟨A, hf.at hA e⟩
def mo_IL (S : mj_S) (rf : Int) (L : Nat) (C : Nat → Int) (fp : Int) (n h : Nat) (KM : Nat → Nat) (acc : List Nat) : Prop :=
  S.2.1 = 65 ∧ L ≤ 60 ∧ (∃ tr rs fo sg : Int, mo_st S rf L fp n h acc.length tr rs fo sg) ∧ mj_lc S C ∧ (∃ E, S.1 42 = .inl (0, 6, .inl (mj_z E)) ∧ ∀ j, j < n → E j = KM j ∧ KM j < 9) ∧ (∃ T, S.1 43 = .inl (0, 7500, .inl (mj_z T)) ∧ frL T acc) ∧ mo_gb S ∧ n ≤ 6 ∧ h ≤ 1000 ∧ acc.length ≤ 500
/-- the number that m digits make, as the reference makes it -/
def mvv (C : Nat → Int) : Nat → Nat → Int → Int
  | 0, _, v => v
  | m + 1, a, v => mvv C m (a + 1) (if v < 1000 then 10 * v + C a - 48 else v)
theorem fdg_all {n : Nat} {C : Nat → Int} : ∀ (m a i : Nat), i < fdg n C m a → 48 ≤ C (a + i) ∧ C (a + i) ≤ 57 := by
  intro m
  induction m with
  | zero => intro a i h; exact absurd h (by simp [fdg])
  | succ m ih =>
    intro a i h
    unfold fdg at h
    split at h
    · rename_i q
      cases i with
      | zero => exact q.2
      | succ i =>
        have := ih (a + 1) i (by omega)
        rw [show a + (i + 1) = a + 1 + i by omega]
        exact this
    · exact absurd h (Nat.not_lt_zero i)
theorem mvv_r {C : Nat → Int} : ∀ (m a : Nat) (v : Int), (∀ i, i < m → 48 ≤ C (a + i) ∧ C (a + i) ≤ 57) → 0 ≤ v ∧ v ≤ 9999 → (0 ≤ mvv C m a v ∧ mvv C m a v ≤ 9999) ∧ (100 ≤ v → 100 ≤ mvv C m a v) := by
  intro m
  induction m with
  | zero => intro a v _ hv; exact ⟨hv, fun h => h⟩
  | succ m ih =>
    intro a v h hv
    have h0 := h 0 (by omega)
    rw [Nat.add_zero] at h0
    have w := ih (a + 1) (if v < 1000 then 10 * v + C a - 48 else v) (fun i hi => by have := h (i + 1) (by omega); rw [show a + 1 + i = a + (i + 1) by omega]; exact this) (by split <;> omega)
    rw [mvv]
    refine ⟨w.1, fun h1 => w.2 ?_⟩
    split <;> omega
theorem mvv_num {n : Nat} {C : Nat → Int} {m a : Nat} (h : 0 < fdg n C m a) : ((C a = 48 ∨ mvv C (fdg n C m a) a 0 < 2 ∨ 99 < mvv C (fdg n C m a) a 0) ∧ fnum n C a (fdg n C m a) = -1) ∨ (¬ (C a = 48 ∨ mvv C (fdg n C m a) a 0 < 2 ∨ 99 < mvv C (fdg n C m a) a 0) ∧ fnum n C a (fdg n C m a) = mvv C (fdg n C m a) a 0 ∧ fnum n C a (fdg n C m a) ≠ -1) := by
  have h1 := fdg_pos h
  have e1 : ln_at n C (a : Int) = C a := by unfold ln_at; rw [if_pos (by omega)]; rfl
  have hall := fdg_all (n := n) (C := C) m a
  obtain ⟨g, hg⟩ : ∃ g, g = fdg n C m a := ⟨_, rfl⟩
  have h2 : 1 < g → ln_at n C ((a : Int) + 1) = C (a + 1) := by
    intro q
    have := fdg_two (n := n) (C := C) (m := m) (a := a) (by omega)
    unfold ln_at
    rw [if_pos (by omega)]
    rfl
  rw [← hg] at h hall ⊢
  unfold fnum fnv
  rw [e1]
  by_cases g1 : g = 1
  · subst g1
    have v1 : mvv C 1 a 0 = C a - 48 := by simp [mvv]
    rw [v1, if_neg (show ¬ ((1 : Nat) = 2) by decide)]
    by_cases q : C a = 48
    · exact Or.inl ⟨Or.inl q, by rw [if_pos (Or.inr q)]⟩
    · by_cases q1 : C a - 48 = 1
      · exact Or.inl ⟨by omega, by rw [if_neg (by omega), if_pos q1]⟩
      · exact Or.inr ⟨by omega, by rw [if_neg (by omega), if_neg q1], by rw [if_neg (by omega), if_neg q1]; omega⟩
  · by_cases g2 : g = 2
    · subst g2
      have h3 := hall 1 (by omega)
      have v2 : mvv C 2 a 0 = 10 * (C a - 48) + C (a + 1) - 48 := by
        simp only [mvv]
        rw [if_pos (by omega), if_pos (by omega)]
        omega
      rw [v2, h2 (by omega)]
      by_cases q : C a = 48
      · exact Or.inl ⟨Or.inl q, by rw [if_pos (Or.inr q)]⟩
      · refine Or.inr ⟨by omega, ?_, ?_⟩
        · rw [if_neg (by omega), if_pos rfl, if_neg (by omega)]; omega
        · rw [if_neg (by omega), if_pos rfl, if_neg (by omega)]; omega
    · obtain ⟨g3, rfl⟩ : ∃ g3, g = g3 + 3 := ⟨g - 3, by omega⟩
      rw [if_pos (by omega)]
      refine Or.inl ⟨?_, rfl⟩
      by_cases q : C a = 48
      · exact Or.inl q
      · refine Or.inr (Or.inr ?_)
        have a0 := hall 0 (by omega)
        have a1 := hall 1 (by omega)
        have a2 := hall 2 (by omega)
        rw [Nat.add_zero] at a0
        have e2 : mvv C (g3 + 3) a 0 = mvv C g3 (a + 3) (10 * (10 * (C a - 48) + C (a + 1) - 48) + C (a + 2) - 48) := by
          simp only [mvv]
          rw [show (if (0 : Int) < 1000 then 10 * 0 + C a - 48 else 0) = C a - 48 by rw [if_pos (by decide)]; omega]
          rw [if_pos (show C a - 48 < 1000 by omega), if_pos (by omega)]
        rw [e2]
        have w := mvv_r (C := C) g3 (a + 3) (10 * (10 * (C a - 48) + C (a + 1) - 48) + C (a + 2) - 48) (fun i hi => by have := hall (i + 3) (by omega); rw [show a + 3 + i = a + (i + 3) by omega]; exact this) (by omega)
        have := w.2 (by omega)
        omega
section MO7
variable {Γ : mj_G} {d L : Nat} {S0 : mj_S} {C : Nat → Int} {am hy sr tr rs fo sg : Int} {Q : Int → mj_S → Prop}
/-- what the counts' row holds -/
def mo_mn (S : mj_S) (c : Nat → Nat) : Prop := ∃ Mn, S.1 54 = .inl (0, 10, .inl (mj_z Mn)) ∧ ∀ j, j < 10 → Mn j = c j ∧ c j ≤ 99
theorem fo_read {wr : Int} (hw0 : S0.2.1 = 65) (hl : mj_lc S0 C) (hL : L ≤ 60) (hL0 : 0 < L) (hd : 2 ≤ d) : ∀ (m a : Nat) (c : Nat → Nat) (S : mj_S) (x2 x3 x4 x5 : Value), c1 x2 → c1 x3 → c1 x4 → c1 x5 → a ≤ L → L ≤ a + m →
    mj_fr S0 S [40, 54] → mo_st S 0 L wr am hy sr tr rs fo sg → mo_mn S c →
    ((floop L C m a c).1 ≠ -1 → ∀ S' c', mj_fr S0 S' [40, 54] → mo_st S' 0 L (floop L C m a c).2.1 am hy sr tr rs fo sg → mo_mn S' c' → Q (floop L C m a c).1 S') →
    ((floop L C m a c).1 = -1 → ∀ S' y1 y2 y3 y4 y5, c1 y1 → c1 y2 → c1 y3 → c1 y4 → c1 y5 → mj_fr S0 S' [40, 54] → mo_st S' 0 L wr am hy sr tr rs fo sg → mo_mn S' (floop L C m a c).2.2 → mj_Ok Γ d M_Mo_formula 0 0 192 [.ref 40, y1, y2, y3, y4, y5] [] S' (mj_I Q)) →
    mj_Ok Γ d M_Mo_formula 0 0 28 [.ref 40, .int (iZ a), x2, x3, x4, x5] [] S (mj_I Q) := by
  have done : ∀ (a : Nat) (c : Nat → Nat) (S : mj_S) (x2 x3 x4 x5 : Value), c1 x2 → c1 x3 → c1 x4 → c1 x5 → a = L → mj_fr S0 S [40, 54] → mo_st S 0 L wr am hy sr tr rs fo sg → mo_mn S c →
      (∀ S' y1 y2 y3 y4 y5, c1 y1 → c1 y2 → c1 y3 → c1 y4 → c1 y5 → mj_fr S0 S' [40, 54] → mo_st S' 0 L wr am hy sr tr rs fo sg → mo_mn S' c → mj_Ok Γ d M_Mo_formula 0 0 192 [.ref 40, y1, y2, y3, y4, y5] [] S' (mj_I Q)) → mj_Ok Γ d M_Mo_formula 0 0 28 [.ref 40, .int (iZ a), x2, x3, x4, x5] [] S (mj_I Q) := by
    intro a c S x2 x3 x4 x5 g2 g3 g4 g5 ha hf hst hmn H
    have h1 : S.1 40 = _ := hst
    have hw := hf.w.trans hw0
    subst ha
    refine mj_iload_n d_Mo_formula_28 rfl ?_
    refine mj_aload_n d_Mo_formula_29 rfl ?_
    refine mj_get (ci := 9) (j := 1) d_Mo_formula_30 rfl w_Mo_88 (by decide) (by omega) (by assumption) rfl ?_
    refine mz_icmp_lt 43 d_Mo_formula_33 (by decide) (by omega) (by omega) (fun c_33 => ?_) (fun c_33 => ?_)
    · omega
    · refine mj_aload_n d_Mo_formula_36 rfl ?_
      refine mj_get (ci := 9) (j := 1) d_Mo_formula_37 rfl w_Mo_88 (by decide) (by omega) (by assumption) rfl ?_
      refine mz_if_ne 192 d_Mo_formula_40 (by decide) (by omega) (fun c_40 => ?_) (fun c_40 => ?_)
      · exact H S _ _ _ _ _ rfl g2 g3 g4 g5 hf hst hmn
      · omega
  intro m
  induction m with
  | zero =>
    intro a c S x2 x3 x4 x5 g2 g3 g4 g5 ha hm hf hst hmn Hf Hok
    exact done a c S x2 x3 x4 x5 g2 g3 g4 g5 (by omega) hf hst hmn (Hok rfl)
  | succ m ih =>
    intro a c S x2 x3 x4 x5 g2 g3 g4 g5 ha hm hf hst hmn Hf Hok
    by_cases haL : a < L
    · rw [floop, if_pos haL] at Hf Hok
      have h1 : S.1 40 = _ := hst
      have hw := hf.w.trans hw0
      have hlc : mj_lc S C := ⟨hf.at hl.1 (by simp), hl.2⟩
      obtain ⟨Mn, k1, k2⟩ := id hmn
      have re := ln_el_r L C (a : Int)
      refine mj_iload_n d_Mo_formula_28 rfl ?_
      refine mj_aload_n d_Mo_formula_29 rfl ?_
      refine mj_get (ci := 9) (j := 1) d_Mo_formula_30 rfl w_Mo_88 (by decide) (by omega) (by assumption) rfl ?_
      refine mz_icmp_lt 43 d_Mo_formula_33 (by decide) (by omega) (by omega) (fun c_33 => ?_) (fun c_33 => ?_)
      · refine mj_aload_n d_Mo_formula_43 rfl ?_
        refine mj_iload_n d_Mo_formula_44 rfl ?_
        refine mz_callV1i (ci := 9) d_Mo_formula_45 (m_Mo_elementAt (d := 1) hw hst hlc hL (by omega) (by omega)) cw_Mo_elementAt lk_Mo_99 rfl rfl (by omega) (by assumption) (by omega) rfl (fun z_45 S_45 h_45 => ?_)
        obtain ⟨e45, rfl⟩ := h_45
        rw [e45]
        refine mz_ist2 d_Mo_formula_48 (by unfold mj_c1; simp only [List.all_cons, g2, g3, g4, g5]; rfl) ?_
        refine mj_iload_n d_Mo_formula_49 rfl ?_
        refine mz_if_ge 61 d_Mo_formula_50 (by decide) (by omega) (fun c_50 => ?_) (fun c_50 => ?_)
        · -- an element's sign
          obtain ⟨e, he⟩ : ∃ e : Nat, ln_el L C (a : Int) = e := ⟨(ln_el L C (a : Int)).toNat, by omega⟩
          have het : (ln_el L C (a : Int)).toNat = e := by omega
          have hne : ¬ ln_el L C (a : Int) = -1 := by omega
          have he9 : e < 10 := by omega
          have ke := k2 e he9
          rw [he]
          refine mj_aload_n d_Mo_formula_61 rfl ?_
          refine mj_get (ci := 9) (j := 23) d_Mo_formula_62 rfl w_Mo_55 (by decide) (by omega) (by assumption) rfl ?_
          refine mj_iload_n d_Mo_formula_65 rfl ?_
          refine mz_iald (j := e) d_Mo_formula_66 (by omega) (by assumption) (by omega) (by omega) ?_
          rw [ke.1]
          refine mz_if_le 78 d_Mo_formula_67 (by decide) (by omega) (fun c_67 => ?_) (fun c_67 => ?_)
          · have hst1 : fstep L C a c = (if fdg L C 60 (a + if mj_SND e = 0 then 1 else 2) = 0 then (-1, a + (if mj_SND e = 0 then 1 else 2), va_up c e 1) else
              if fnum L C (a + if mj_SND e = 0 then 1 else 2) (fdg L C 60 (a + if mj_SND e = 0 then 1 else 2)) = -1 then (-4, a + (if mj_SND e = 0 then 1 else 2), c) else
              (-1, a + (if mj_SND e = 0 then 1 else 2) + fdg L C 60 (a + if mj_SND e = 0 then 1 else 2), va_up c e (fnum L C (a + if mj_SND e = 0 then 1 else 2) (fdg L C 60 (a + if mj_SND e = 0 then 1 else 2))).toNat)) := by
              unfold fstep
              rw [if_neg hne, het, if_neg (by omega)]
            have hin := (ln_el_in hne).2
            rw [het] at hin
            have hok := fstep_ok (n := L) (C := C) (a := a) (c := c) ha (fun j hj => (k2 j hj).2)
            obtain ⟨b, hb⟩ : ∃ b, b = a + (if mj_SND e = 0 then 1 else 2) := ⟨_, rfl⟩
            rw [← hb] at hst1 hin
            obtain ⟨g, hg⟩ : ∃ g, g = fdg L C 60 b := ⟨_, rfl⟩
            rw [← hg] at hst1
            have hgl := fdg_le L C 60 b (by omega)
            have hall := fdg_all (n := L) (C := C) 60 b
            rw [← hg] at hgl hall
            have hsz : (a : Int) + (if mj_SND e = 0 then 1 else 2) = (b : Nat) := by rw [hb]; split <;> omega
            refine mj_iload_n d_Mo_formula_78 rfl ?_
            refine mj_iload_n d_Mo_formula_79 rfl ?_
            refine mz_callS1i d_Mo_formula_80 (m_Mo_signSize (d := 0) he9) cw_Mo_signSize lk_Mo_107 (by omega) rfl (fun z_80 S_80 h_80 => ?_)
            obtain ⟨e80, rfl⟩ := h_80
            rw [e80]
            refine mz_iadd d_Mo_formula_83 ?_
            rw [hsz]
            refine mz_ist1 d_Mo_formula_84 (by unfold mj_c1; simp only [List.all_cons, g3, g4, g5]; rfl) ?_
            refine mj_iload_n d_Mo_formula_85 rfl ?_
            refine mz_ist3 d_Mo_formula_86 (by unfold mj_c1; simp only [List.all_cons, g3, g4, g5]; rfl) ?_
            refine mz_iconst d_Mo_formula_87 ?_
            refine mz_ist4 d_Mo_formula_88 (by unfold mj_c1; simp only [List.all_cons, g4, g5]; rfl) ?_
            have store : ∀ (y4 : Value) (v : Nat), c1 y4 → v ≤ 99 → fstep L C a c = (-1, b + g, va_up c e v) → mj_Ok Γ d M_Mo_formula 0 0 188 [.ref 40, .int (iZ ((b + g : Nat) : Int)), .int (iZ e), .int (iZ b), y4, x5] [.int (iZ v), .int (iZ e), .ref 54] S (mj_I Q) := by
              intro y4 v q4 hv hs
              rw [hs] at hok
              rw [if_pos (by rw [hs]), hs] at Hf Hok
              refine mz_iast (j := e) d_Mo_formula_188 (by omega) (by assumption) (by omega) (by omega) (fun S_188 w_188 e_188 f_188 => ?_)
              refine mj_goto 28 d_Mo_formula_189 (by decide) ?_
              refine ih (b + g) (va_up c e v) S_188 _ _ _ _ rfl rfl q4 g5 (by omega) (by have := hok.2.2.1 rfl; have : a < b + g := this; omega) (hf.tr f_188 (by simp) (by simp)) (f_188.at h1 (by simp)) ⟨_, e_188, fun j hj => ?_⟩ Hf Hok
              by_cases q : j = e
              · subst q; rw [va_up_self, va_up_self]; exact ⟨rfl, hv⟩
              · rw [va_up_ne _ _ q, va_up_ne _ _ q]; exact k2 j hj
            have t136 : mj_Ok Γ d M_Mo_formula 0 0 136 [.ref 40, .int (iZ ((b + g : Nat) : Int)), .int (iZ e), .int (iZ b), .int (iZ (mvv C g b 0)), x5] [] S (mj_I Q) := by
              have vr := (mvv_r (C := C) g b 0 hall (by omega)).1
              refine mj_iload_n d_Mo_formula_136 rfl ?_
              refine mj_iload_n d_Mo_formula_137 rfl ?_
              refine mz_icmp_le 172 d_Mo_formula_138 (by decide) (by omega) (by omega) (fun c_138 => ?_) (fun c_138 => ?_)
              · -- no digit
                have hg0 : g = 0 := by omega
                rw [if_pos hg0] at hst1
                refine mj_aload_n d_Mo_formula_172 rfl ?_
                refine mj_get (ci := 9) (j := 23) d_Mo_formula_173 rfl w_Mo_55 (by decide) (by omega) (by assumption) rfl ?_
                refine mj_iload_n d_Mo_formula_176 rfl ?_
                refine mj_iload_n d_Mo_formula_177 rfl ?_
                refine mj_iload_n d_Mo_formula_178 rfl ?_
                refine mz_icmp_le 187 d_Mo_formula_179 (by decide) (by omega) (by omega) (fun c_179 => ?_) (fun c_179 => ?_)
                · refine mz_iconst d_Mo_formula_187 ?_
                  exact store _ 1 rfl (by omega) (by rw [hst1, hg0, Nat.add_zero])
                · omega
              · have hg0 : 0 < g := by omega
                rw [if_neg (by omega)] at hst1
                have hm1 := mvv_num (n := L) (C := C) (m := 60) (a := b) (by omega)
                rw [← hg] at hm1
                have hdp := fdg_pos (n := L) (C := C) (m := 60) (a := b) (by omega)
                have hatb : mo_at L C (b : Int) = C b := by unfold mo_at; rw [if_pos (by omega)]; rfl
                have bad : fnum L C b g = -1 → mj_Ok Γ d M_Mo_formula 0 0 164 [.ref 40, .int (iZ ((b + g : Nat) : Int)), .int (iZ e), .int (iZ b), .int (iZ (mvv C g b 0)), x5] [] S (mj_I Q) := by
                  intro hb1
                  rw [if_pos hb1] at hst1
                  rw [if_neg (by rw [hst1]; simp), hst1] at Hf
                  refine mj_aload_n d_Mo_formula_164 rfl ?_
                  refine mz_bipush d_Mo_formula_165 (by decide) ?_
                  refine mj_iload_n d_Mo_formula_167 rfl ?_
                  refine mz_callV2i (ci := 9) d_Mo_formula_168 (m_Mo_fault (d := 0) hw hst) cw_Mo_fault lk_Mo_103 rfl rfl (by omega) (by assumption) (by omega) rfl (fun z_168 S_168 h_168 => ?_)
                  obtain ⟨q1, rfl, q3⟩ := h_168
                  refine mz_iret d_Mo_formula_171 rfl (rfl) ?_
                  exact Hf (by simp) _ c (hf.tr q1 (by simp) (by simp)) q3 ⟨Mn, q1.at k1 (by simp), k2⟩
                refine mj_aload_n d_Mo_formula_141 rfl ?_
                refine mj_iload_n d_Mo_formula_142 rfl ?_
                refine mz_callV1i (ci := 9) d_Mo_formula_143 (m_Mo_at (d := 0) hw hst hlc hL (by omega)) cw_Mo_at lk_Mo_95 rfl rfl (by omega) (by assumption) (by omega) rfl (fun z_143 S_143 h_143 => ?_)
                obtain ⟨e143, rfl⟩ := h_143
                rw [e143, hatb]
                refine mz_bipush d_Mo_formula_146 (by decide) ?_
                refine mz_icmp_eq 164 d_Mo_formula_148 (by decide) (by omega) (by omega) (fun c_148 => ?_) (fun c_148 => ?_)
                · rcases hm1 with ⟨_, q⟩ | ⟨q, _⟩
                  · exact bad q
                  · exact absurd (Or.inl c_148) q
                · refine mj_iload d_Mo_formula_151 rfl ?_
                  refine mz_iconst d_Mo_formula_153 ?_
                  refine mz_icmp_lt 164 d_Mo_formula_154 (by decide) (by omega) (by omega) (fun c_154 => ?_) (fun c_154 => ?_)
                  · rcases hm1 with ⟨_, q⟩ | ⟨q, _⟩
                    · exact bad q
                    · exact absurd (Or.inr (Or.inl c_154)) q
                  · refine mj_iload d_Mo_formula_157 rfl ?_
                    refine mz_bipush d_Mo_formula_159 (by decide) ?_
                    refine mz_icmp_le 172 d_Mo_formula_161 (by decide) (by omega) (by omega) (fun c_161 => ?_) (fun c_161 => ?_)
                    · rcases hm1 with ⟨q, _⟩ | ⟨q, q2, q3⟩
                      · exfalso
                        rcases q with q | q | q
                        · exact c_148 q
                        · omega
                        · omega
                      · rw [if_neg q3] at hst1
                        refine mj_aload_n d_Mo_formula_172 rfl ?_
                        refine mj_get (ci := 9) (j := 23) d_Mo_formula_173 rfl w_Mo_55 (by decide) (by omega) (by assumption) rfl ?_
                        refine mj_iload_n d_Mo_formula_176 rfl ?_
                        refine mj_iload_n d_Mo_formula_177 rfl ?_
                        refine mj_iload_n d_Mo_formula_178 rfl ?_
                        refine mz_icmp_le 187 d_Mo_formula_179 (by decide) (by omega) (by omega) (fun c_179 => ?_) (fun c_179 => ?_)
                        · omega
                        · refine mj_iload d_Mo_formula_182 rfl ?_
                          refine mj_goto 188 d_Mo_formula_184 (by decide) ?_
                          have w := store (.int (iZ (mvv C g b 0))) (mvv C g b 0).toNat rfl (by omega) (by rw [hst1, q2])
                          rw [show (((mvv C g b 0).toNat : Nat) : Int) = mvv C g b 0 by omega] at w
                          exact w
                    · rcases hm1 with ⟨_, q⟩ | ⟨q, _⟩
                      · exact bad q
                      · exact absurd (Or.inr (Or.inr c_161)) q
            have digs : ∀ (m2 b2 : Nat) (v : Int), L ≤ b2 + m2 → 0 ≤ v ∧ v ≤ 9999 → b2 + fdg L C m2 b2 = b + g → mvv C (fdg L C m2 b2) b2 v = mvv C g b 0 → b2 ≤ L → mj_Ok Γ d M_Mo_formula 0 0 90 [.ref 40, .int (iZ b2), .int (iZ e), .int (iZ b), .int (iZ v), x5] [] S (mj_I Q) := by
              have stop : ∀ (b2 : Nat) (v : Int), ¬ (b2 < L ∧ 48 ≤ C b2 ∧ C b2 ≤ 57) → b2 ≤ L → b2 = b + g → v = mvv C g b 0 → mj_Ok Γ d M_Mo_formula 0 0 90 [.ref 40, .int (iZ b2), .int (iZ e), .int (iZ b), .int (iZ v), x5] [] S (mj_I Q) := by
                intro b2 v hno hb2 e1 e2
                subst e1
                subst e2
                have hr := mo_at_r (n := L) hl.2 ((b + g : Nat) : Int)
                refine mj_aload_n d_Mo_formula_90 rfl ?_
                refine mj_iload_n d_Mo_formula_91 rfl ?_
                refine mz_callV1i (ci := 9) d_Mo_formula_92 (m_Mo_at (d := 0) hw hst hlc hL (by omega)) cw_Mo_at lk_Mo_95 rfl rfl (by omega) (by assumption) (by omega) rfl (fun z_92 S_92 h_92 => ?_)
                obtain ⟨e92, rfl⟩ := h_92
                rw [e92]
                refine mz_callS1i d_Mo_formula_95 (m_Mo_isDigit (d := 0) (by omega)) cw_Mo_isDigit lk_Mo_110 (by omega) rfl (fun z_95 S_95 h_95 => ?_)
                obtain ⟨e95, hz⟩ := h_95
                rw [e95]
                have hz : z_95 = 0 := by
                  rw [hz, if_neg]
                  intro hq
                  unfold mo_at at hq
                  by_cases q : 0 ≤ ((b + g : Nat) : Int) ∧ ((b + g : Nat) : Int) < L
                  · rw [if_pos q, Int.toNat_natCast] at hq
                    exact hno ⟨by omega, hq⟩
                  · rw [if_neg q] at hq
                    omega
                subst hz
                refine mz_if_eq 136 d_Mo_formula_98 (by decide) (by omega) (fun c_98 => ?_) (fun c_98 => ?_)
                · exact t136
                · omega
              intro m2
              induction m2 with
              | zero =>
                intro b2 v hm2 hv e1 e2 hb2
                exact stop b2 v (by omega) hb2 e1 e2
              | succ m2 ih2 =>
                intro b2 v hm2 hv e1 e2 hb2
                by_cases q : b2 < L ∧ 48 ≤ C b2 ∧ C b2 ≤ 57
                · rw [fdg, if_pos q] at e1 e2
                  rw [mvv] at e2
                  have hat : mo_at L C (b2 : Int) = C b2 := by unfold mo_at; rw [if_pos (by omega)]; rfl
                  have next := ih2 (b2 + 1) (if v < 1000 then 10 * v + C b2 - 48 else v) (by omega) (by split <;> omega) (by omega) e2 (by omega)
                  rw [show ((b2 + 1 : Nat) : Int) = (b2 : Int) + 1 by omega] at next
                  refine mj_aload_n d_Mo_formula_90 rfl ?_
                  refine mj_iload_n d_Mo_formula_91 rfl ?_
                  refine mz_callV1i (ci := 9) d_Mo_formula_92 (m_Mo_at (d := 0) hw hst hlc hL (by omega)) cw_Mo_at lk_Mo_95 rfl rfl (by omega) (by assumption) (by omega) rfl (fun z_92 S_92 h_92 => ?_)
                  obtain ⟨e92, rfl⟩ := h_92
                  rw [e92, hat]
                  refine mz_callS1i d_Mo_formula_95 (m_Mo_isDigit (d := 0) (by omega)) cw_Mo_isDigit lk_Mo_110 (by omega) rfl (fun z_95 S_95 h_95 => ?_)
                  obtain ⟨e95, hz⟩ := h_95
                  rw [if_pos q.2] at hz
                  subst hz
                  rw [e95]
                  refine mz_if_eq 136 d_Mo_formula_98 (by decide) (by omega) (fun c_98 => ?_) (fun c_98 => ?_)
                  · omega
                  · refine mj_iload d_Mo_formula_101 rfl ?_
                    refine mz_sipush d_Mo_formula_103 (by decide) ?_
                    refine mz_icmp_ge 126 d_Mo_formula_106 (by decide) (by omega) (by omega) (fun c_106 => ?_) (fun c_106 => ?_)
                    · rw [if_neg (by omega)] at next
                      refine mj_iload d_Mo_formula_126 rfl ?_
                      refine mz_ist4 d_Mo_formula_128 (by unfold mj_c1; simp only [List.all_cons, g5]; rfl) ?_
                      refine mz_inc1 d_Mo_formula_130 (by unfold mj_c1; simp only [List.all_cons, g5]; rfl) ?_
                      refine mj_goto 90 d_Mo_formula_133 (by decide) ?_
                      exact next
                    · rw [if_pos (by omega)] at next
                      refine mz_bipush d_Mo_formula_109 (by decide) ?_
                      refine mj_iload d_Mo_formula_111 rfl ?_
                      refine mz_imul d_Mo_formula_113 ?_
                      refine mj_aload_n d_Mo_formula_114 rfl ?_
                      refine mj_iload_n d_Mo_formula_115 rfl ?_
                      refine mz_callV1i (ci := 9) d_Mo_formula_116 (m_Mo_at (d := 0) hw hst hlc hL (by omega)) cw_Mo_at lk_Mo_95 rfl rfl (by omega) (by assumption) (by omega) rfl (fun z_116 S_116 h_116 => ?_)
                      obtain ⟨e116, rfl⟩ := h_116
                      rw [e116, hat]
                      refine mz_iadd d_Mo_formula_119 ?_
                      refine mz_bipush d_Mo_formula_120 (by decide) ?_
                      refine mz_isub d_Mo_formula_122 ?_
                      refine mj_goto 128 d_Mo_formula_123 (by decide) ?_
                      refine mz_ist4 d_Mo_formula_128 (by unfold mj_c1; simp only [List.all_cons, g5]; rfl) ?_
                      refine mz_inc1 d_Mo_formula_130 (by unfold mj_c1; simp only [List.all_cons, g5]; rfl) ?_
                      refine mj_goto 90 d_Mo_formula_133 (by decide) ?_
                      exact next
                · rw [fdg, if_neg q] at e1 e2
                  exact stop b2 v q hb2 e1 e2
            exact digs 60 b 0 (by omega) (by omega) (by rw [← hg]) (by rw [← hg]) (by omega)
          · have hs : fstep L C a c = (-3, a, c) := by
              unfold fstep
              rw [if_neg hne, het, if_pos (by omega)]
            rw [if_neg (by rw [hs]; simp), hs] at Hf
            refine mj_aload_n d_Mo_formula_70 rfl ?_
            refine mz_bipush d_Mo_formula_71 (by decide) ?_
            refine mj_iload_n d_Mo_formula_73 rfl ?_
            refine mz_callV2i (ci := 9) d_Mo_formula_74 (m_Mo_fault (d := 0) hw hst) cw_Mo_fault lk_Mo_103 rfl rfl (by omega) (by assumption) (by omega) rfl (fun z_74 S_74 h_74 => ?_)
            obtain ⟨q1, rfl, q3⟩ := h_74
            refine mz_iret d_Mo_formula_77 rfl (rfl) ?_
            exact Hf (by simp) _ c (hf.tr q1 (by simp) (by simp)) q3 ⟨Mn, q1.at k1 (by simp), k2⟩
        · have hs : fstep L C a c = (-2, a, c) := by
            unfold fstep
            rw [if_pos (by omega)]
          rw [if_neg (by rw [hs]; simp), hs] at Hf
          refine mj_aload_n d_Mo_formula_53 rfl ?_
          refine mz_bipush d_Mo_formula_54 (by decide) ?_
          refine mj_iload_n d_Mo_formula_56 rfl ?_
          refine mz_callV2i (ci := 9) d_Mo_formula_57 (m_Mo_fault (d := 0) hw hst) cw_Mo_fault lk_Mo_103 rfl rfl (by omega) (by assumption) (by omega) rfl (fun z_57 S_57 h_57 => ?_)
          obtain ⟨q1, rfl, q3⟩ := h_57
          refine mz_iret d_Mo_formula_60 rfl (rfl) ?_
          exact Hf (by simp) _ c (hf.tr q1 (by simp) (by simp)) q3 ⟨Mn, q1.at k1 (by simp), k2⟩
      · omega
    · rw [floop, if_neg haL] at Hok
      exact done a c S x2 x3 x4 x5 g2 g3 g4 g5 (by omega) hf hst hmn (Hok rfl)
end MO7
