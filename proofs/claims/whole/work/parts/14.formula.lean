/-! the reader of formulas (3; counts 4), and what it reads, as pure functions -/
/-- how many digits stand from a on -/
def fdg (n : Nat) (C : Nat → Int) : Nat → Nat → Nat
  | 0, _ => 0
  | m + 1, a => if a < n ∧ 48 ≤ C a ∧ C a ≤ 57 then fdg n C m (a + 1) + 1 else 0
theorem fdg_le (n : Nat) (C : Nat → Int) : ∀ (m a : Nat), a ≤ n → a + fdg n C m a ≤ n := by
  intro m
  induction m with
  | zero => intro a h; exact h
  | succ m ih =>
    intro a h
    unfold fdg
    split
    · rename_i q
      have := ih (a + 1) (by omega)
      omega
    · exact h
theorem fdg_pos {n : Nat} {C : Nat → Int} {m a : Nat} (h : 0 < fdg n C m a) : a < n ∧ 48 ≤ C a ∧ C a ≤ 57 := by
  cases m with
  | zero => exact absurd h (by simp [fdg])
  | succ m =>
    unfold fdg at h
    split at h
    · assumption
    · exact absurd h (by simp)
theorem fdg_two {n : Nat} {C : Nat → Int} {m a : Nat} (h : 1 < fdg n C m a) : a + 1 < n ∧ 48 ≤ C (a + 1) ∧ C (a + 1) ≤ 57 := by
  cases m with
  | zero => exact absurd h (by simp [fdg])
  | succ m =>
    unfold fdg at h
    split at h
    · exact fdg_pos (m := m) (by omega)
    · exact absurd h (by simp)
def fnv (n : Nat) (C : Nat → Int) (a dg : Nat) : Int := if dg = 2 then (ln_at n C a - 48) * 10 + ln_at n C ((a : Int) + 1) - 48 else ln_at n C a - 48
def fnum (n : Nat) (C : Nat → Int) (a dg : Nat) : Int :=
  if 2 < dg ∨ ln_at n C a = 48 then -1 else if fnv n C a dg = 1 then -1 else fnv n C a dg
theorem fnum_r {n : Nat} {C : Nat → Int} {m a : Nat} (h : 0 < fdg n C m a) : fnum n C a (fdg n C m a) = -1 ∨ (2 ≤ fnum n C a (fdg n C m a) ∧ fnum n C a (fdg n C m a) ≤ 99) := by
  have h1 := fdg_pos h
  have e1 : ln_at n C (a : Int) = C a := by unfold ln_at; rw [if_pos (by omega)]; rfl
  unfold fnum
  rw [e1]
  split
  · exact Or.inl rfl
  · rename_i q
    by_cases q2 : fdg n C m a = 2
    · have h2 := fdg_two (n := n) (C := C) (m := m) (a := a) (by omega)
      have e2 : ln_at n C ((a : Int) + 1) = C (a + 1) := by unfold ln_at; rw [if_pos (by omega)]; rfl
      have e3 : fnv n C a (fdg n C m a) = (C a - 48) * 10 + C (a + 1) - 48 := by unfold fnv; rw [if_pos q2, e1, e2]
      rw [e3]
      split
      · exact Or.inl rfl
      · exact Or.inr (by omega)
    · have e3 : fnv n C a (fdg n C m a) = C a - 48 := by unfold fnv; rw [if_neg q2, e1]
      rw [e3]
      split
      · exact Or.inl rfl
      · exact Or.inr (by omega)
/-- one element with its number: what is wrong (or -1), the place, the counts -/
def fstep (n : Nat) (C : Nat → Int) (a : Nat) (c : Nat → Nat) : Int × Nat × (Nat → Nat) :=
  if ln_el n C a = -1 then (-2, a, c) else
  if 0 < c (ln_el n C a).toNat then (-3, a, c) else
  if fdg n C 60 (a + if mj_SND (ln_el n C a).toNat = 0 then 1 else 2) = 0 then (-1, a + (if mj_SND (ln_el n C a).toNat = 0 then 1 else 2), va_up c (ln_el n C a).toNat 1) else
  if fnum n C (a + if mj_SND (ln_el n C a).toNat = 0 then 1 else 2) (fdg n C 60 (a + if mj_SND (ln_el n C a).toNat = 0 then 1 else 2)) = -1 then (-4, a + (if mj_SND (ln_el n C a).toNat = 0 then 1 else 2), c) else
  (-1, a + (if mj_SND (ln_el n C a).toNat = 0 then 1 else 2) + fdg n C 60 (a + if mj_SND (ln_el n C a).toNat = 0 then 1 else 2), va_up c (ln_el n C a).toNat (fnum n C (a + if mj_SND (ln_el n C a).toNat = 0 then 1 else 2) (fdg n C 60 (a + if mj_SND (ln_el n C a).toNat = 0 then 1 else 2))).toNat)
theorem elS_in {c d : Int} : ∀ (m : Nat) (f : Int), (f = -1 ∨ (c ≠ 32 ∧ 0 ≤ f ∧ mj_SND f.toNat = 0)) → elS c d m f = -1 ∨ (c ≠ 32 ∧ (mj_SND (elS c d m f).toNat = 0 ∨ d ≠ 32)) := by
  intro m
  induction m with
  | zero => intro f h; rcases h with h | h
            · exact Or.inl h
            · exact Or.inr ⟨h.1, Or.inl h.2.2⟩
  | succ m ih =>
    intro f h
    have hf : ∀ j, j < 10 → mj_FST j ≠ 32 := by decide
    have hs : ∀ j, j < 10 → mj_SND j ≠ 32 := by decide
    unfold elS
    split
    · rename_i q
      have c32 : c ≠ 32 := by rw [← q]; exact hf _ (by omega)
      split
      · rename_i q2
        exact ih _ (Or.inr ⟨c32, by omega, by simpa using q2⟩)
      · split
        · rename_i q3
          exact Or.inr ⟨c32, Or.inr (by rw [← q3]; exact hs _ (by omega))⟩
        · exact ih _ h
    · exact ih _ h
theorem ln_el_r (n : Nat) (C : Nat → Int) (k : Int) : -1 ≤ ln_el n C k ∧ ln_el n C k ≤ 9 := elS_r _ _ _ _ (by omega)
/-- the sign lies within the line -/
theorem ln_el_in {n : Nat} {C : Nat → Int} {a : Nat} (h : ln_el n C a ≠ -1) : a < n ∧ a + (if mj_SND (ln_el n C a).toNat = 0 then 1 else 2) ≤ n := by
  rcases elS_in (c := ln_at n C a) (d := ln_at n C ((a : Int) + 1)) 10 (-1) (Or.inl rfl) with q | ⟨q1, q2⟩
  · exact absurd q h
  · have h1 : a < n := by
      by_cases z : a < n
      · exact z
      · exact absurd (show ln_at n C a = 32 by unfold ln_at; rw [if_neg (by omega)]) q1
    refine ⟨h1, ?_⟩
    rcases q2 with q2 | q2
    · have q2' : mj_SND (ln_el n C a).toNat = 0 := q2
      rw [if_pos q2']
      omega
    · have h2 : a + 1 < n := by
        by_cases z : a + 1 < n
        · exact z
        · exact absurd (show ln_at n C ((a : Int) + 1) = 32 by unfold ln_at; rw [if_neg (by omega)]) q2
      split <;> omega
def mj_fr3 (S : mj_S) (a : Nat) (A : Nat → Int) : Prop := S.1 3 = .inr (2, [.ref 4, .int (iZ a)]) ∧ S.1 4 = .inl (0, 10, .inl (mj_z A))
section FR
variable {Γ : mj_G} {d n a : Nat} {S : mj_S} {C A : Nat → Int} {c : Nat → Nat}
theorem m_Fr_digitsAhead (hw : S.2.1 = 65) (hl : mj_ln S n C) (hf : mj_fr3 S a A) (hd : 1 ≤ d) (ha : a ≤ n) : mj_Met Γ d y_Fr_digitsAhead M_Fr_digitsAhead [.ref 3, .ref 1] S 0 0 (mj_I fun z S' => S' = S ∧ z = fdg n C 60 a) := by
  have hl0 := hl
  obtain ⟨l1, l2, l3, l4⟩ := hl
  obtain ⟨f1, f2⟩ := hf
  refine mj_Met.of (by decide) ⟨rfl, rfl⟩ rfl rfl rfl ?_
  refine mj_aload_n d_Fr_digitsAhead_0 rfl ?_
  refine mj_get (ci := 2) (j := 1) d_Fr_digitsAhead_1 rfl w_Fr_21 (by decide) (by omega) (by assumption) rfl ?_
  refine mz_ist2 d_Fr_digitsAhead_4 (rfl) ?_
  have loop : ∀ (m i : Nat), i ≤ n → n ≤ i + m → mj_Ok Γ d M_Fr_digitsAhead 0 0 5 [.ref 3, .ref 1, .int (iZ i)] [] S (mj_I fun z S' => S' = S ∧ z = (i : Int) + fdg n C m i - a) := by
    intro m
    induction m with
    | zero =>
      intro i hi hm
      refine mj_iload_n d_Fr_digitsAhead_5 rfl ?_
      refine mj_aload_n d_Fr_digitsAhead_6 rfl ?_
      refine mj_get (ci := 1) (j := 1) d_Fr_digitsAhead_7 rfl w_Fr_25 (by decide) (by omega) (by assumption) rfl ?_
      refine mz_icmp_ge 30 d_Fr_digitsAhead_10 (by decide) (by omega) (by omega) (fun c_10 => ?_) (fun c_10 => ?_)
      · refine mj_iload_n d_Fr_digitsAhead_30 rfl ?_
        refine mj_aload_n d_Fr_digitsAhead_31 rfl ?_
        refine mj_get (ci := 2) (j := 1) d_Fr_digitsAhead_32 rfl w_Fr_21 (by decide) (by omega) (by assumption) rfl ?_
        refine mz_isub d_Fr_digitsAhead_35 ?_
        refine mz_iret d_Fr_digitsAhead_36 rfl (rfl) ?_
        exact ⟨rfl, by simp [fdg]⟩
      · omega
    | succ m ih =>
      intro i hi hm
      have r := l4 i
      refine mj_iload_n d_Fr_digitsAhead_5 rfl ?_
      refine mj_aload_n d_Fr_digitsAhead_6 rfl ?_
      refine mj_get (ci := 1) (j := 1) d_Fr_digitsAhead_7 rfl w_Fr_25 (by decide) (by omega) (by assumption) rfl ?_
      refine mz_icmp_ge 30 d_Fr_digitsAhead_10 (by decide) (by omega) (by omega) (fun c_10 => ?_) (fun c_10 => ?_)
      · refine mj_iload_n d_Fr_digitsAhead_30 rfl ?_
        refine mj_aload_n d_Fr_digitsAhead_31 rfl ?_
        refine mj_get (ci := 2) (j := 1) d_Fr_digitsAhead_32 rfl w_Fr_21 (by decide) (by omega) (by assumption) rfl ?_
        refine mz_isub d_Fr_digitsAhead_35 ?_
        refine mz_iret d_Fr_digitsAhead_36 rfl (rfl) ?_
        unfold fdg
        rw [if_neg (by omega)]
        exact ⟨rfl, by simp⟩
      · refine mj_aload_n d_Fr_digitsAhead_13 rfl ?_
        refine mj_iload_n d_Fr_digitsAhead_14 rfl ?_
        refine mz_callV1i (ci := 1) d_Fr_digitsAhead_15 (m_Ln_at (d := 0) hw hl0 (by omega)) cw_Ln_at lk_Fr_52 rfl rfl (by omega) (by assumption) (by omega) rfl (fun z_15 S_15 h_15 => ?_)
        obtain ⟨rfl, rfl⟩ := h_15
        have e1 : ln_at n C (i : Int) = C i := by unfold ln_at; rw [if_pos (by omega)]; rfl
        rw [e1]
        refine mz_callSN1i d_Fr_digitsAhead_18 (m_IL_isDigit (d := 0) (by omega)) cw_IL_isDigit lk_Fr_55 (by omega) rfl (fun z_18 S_18 h_18 => ?_)
        obtain ⟨rfl, rfl⟩ := h_18
        by_cases q : 48 ≤ C i ∧ C i ≤ 57
        · rw [if_pos q]
          refine mz_if_eq 30 d_Fr_digitsAhead_21 (by decide) (by omega) (fun c_21 => ?_) (fun c_21 => ?_)
          · omega
          · refine mz_inc2 d_Fr_digitsAhead_24 (rfl) ?_
            refine mj_goto 5 d_Fr_digitsAhead_27 (by decide) ?_
            have w := ih (i + 1) (by omega) (by omega)
            unfold fdg
            rw [if_pos ⟨by omega, q⟩]
            refine mj_Ok.post (fun o S' hp => ?_) w
            cases o with
            | inr x => exact hp
            | inl v =>
              obtain ⟨z, e, h1, h2⟩ := hp
              exact ⟨z, e, h1, by omega⟩
        · rw [if_neg q]
          refine mz_if_eq 30 d_Fr_digitsAhead_21 (by decide) (by omega) (fun c_21 => ?_) (fun c_21 => ?_)
          · refine mj_iload_n d_Fr_digitsAhead_30 rfl ?_
            refine mj_aload_n d_Fr_digitsAhead_31 rfl ?_
            refine mj_get (ci := 2) (j := 1) d_Fr_digitsAhead_32 rfl w_Fr_21 (by decide) (by omega) (by assumption) rfl ?_
            refine mz_isub d_Fr_digitsAhead_35 ?_
            refine mz_iret d_Fr_digitsAhead_36 rfl (rfl) ?_
            unfold fdg
            rw [if_neg (fun z => q z.2)]
            exact ⟨rfl, by simp⟩
          · omega
  have w := loop 60 a ha (by omega)
  refine mj_Ok.post (fun o S' hp => ?_) w
  cases o with
  | inr x => exact hp
  | inl v =>
    obtain ⟨z, e, h1, h2⟩ := hp
    exact ⟨z, e, h1, by omega⟩
theorem m_Fr_numberAhead (hw : S.2.1 = 65) (hl : mj_ln S n C) (hf : mj_fr3 S a A) (hd : 1 ≤ d) (ha : a ≤ n) {g : Nat} (hg : g ≤ 100) : mj_Met Γ d y_Fr_numberAhead M_Fr_numberAhead [.ref 3, .ref 1, .int (iZ g)] S 0 0 (mj_I fun z S' => S' = S ∧ z = fnum n C a g) := by
  have hl0 := hl
  obtain ⟨l1, l2, l3, l4⟩ := hl
  obtain ⟨f1, f2⟩ := hf
  have r1 := ln_at_r l4 (n := n) a
  have r2 := ln_at_r l4 (n := n) ((a : Int) + 1)
  refine mj_Met.of (by decide) ⟨rfl, rfl⟩ rfl rfl rfl ?_
  refine mj_iload_n d_Fr_numberAhead_0 rfl ?_
  refine mz_iconst d_Fr_numberAhead_1 ?_
  refine mz_icmp_gt 18 d_Fr_numberAhead_2 (by decide) (by omega) (by omega) (fun c_2 => ?_) (fun c_2 => ?_)
  · refine mz_iconst d_Fr_numberAhead_18 ?_
    refine mz_iret d_Fr_numberAhead_19 rfl (rfl) ?_
    exact ⟨rfl, by unfold fnum; rw [if_pos (Or.inl (by omega))]⟩
  · refine mj_aload_n d_Fr_numberAhead_5 rfl ?_
    refine mj_aload_n d_Fr_numberAhead_6 rfl ?_
    refine mj_get (ci := 2) (j := 1) d_Fr_numberAhead_7 rfl w_Fr_21 (by decide) (by omega) (by assumption) rfl ?_
    refine mz_callV1i (ci := 1) d_Fr_numberAhead_10 (m_Ln_at (d := 0) hw hl0 (by omega)) cw_Ln_at lk_Fr_52 rfl rfl (by omega) (by assumption) (by omega) rfl (fun z_10 S_10 h_10 => ?_)
    obtain ⟨rfl, rfl⟩ := h_10
    refine mz_bipush d_Fr_numberAhead_13 (by decide) ?_
    refine mz_icmp_ne 20 d_Fr_numberAhead_15 (by decide) (by omega) (by omega) (fun c_15 => ?_) (fun c_15 => ?_)
    · refine mj_aload_n d_Fr_numberAhead_20 rfl ?_
      refine mj_aload_n d_Fr_numberAhead_21 rfl ?_
      refine mj_get (ci := 2) (j := 1) d_Fr_numberAhead_22 rfl w_Fr_21 (by decide) (by omega) (by assumption) rfl ?_
      refine mz_callV1i (ci := 1) d_Fr_numberAhead_25 (m_Ln_at (d := 0) hw hl0 (by omega)) cw_Ln_at lk_Fr_52 rfl rfl (by omega) (by assumption) (by omega) rfl (fun z_25 S_25 h_25 => ?_)
      obtain ⟨rfl, rfl⟩ := h_25
      refine mz_bipush d_Fr_numberAhead_28 (by decide) ?_
      refine mz_isub d_Fr_numberAhead_30 ?_
      refine mz_ist3 d_Fr_numberAhead_31 (rfl) ?_
      refine mj_iload_n d_Fr_numberAhead_32 rfl ?_
      refine mz_iconst d_Fr_numberAhead_33 ?_
      refine mz_icmp_ne 56 d_Fr_numberAhead_34 (by decide) (by omega) (by omega) (fun c_34 => ?_) (fun c_34 => ?_)
      · refine mj_iload_n d_Fr_numberAhead_56 rfl ?_
        refine mz_iconst d_Fr_numberAhead_57 ?_
        refine mz_icmp_ne 65 d_Fr_numberAhead_58 (by decide) (by omega) (by omega) (fun c_58 => ?_) (fun c_58 => ?_)
        · refine mj_iload_n d_Fr_numberAhead_65 rfl ?_
          refine mz_iret d_Fr_numberAhead_66 rfl (rfl) ?_
          exact ⟨rfl, by rw [fnum, if_neg (by omega), show fnv n C a g = ln_at n C a - 48 from if_neg (by omega), if_neg (by omega)]⟩
        · refine mz_iconst d_Fr_numberAhead_61 ?_
          refine mj_goto 66 d_Fr_numberAhead_62 (by decide) ?_
          refine mz_iret d_Fr_numberAhead_66 rfl (rfl) ?_
          exact ⟨rfl, by rw [fnum, if_neg (by omega), show fnv n C a g = ln_at n C a - 48 from if_neg (by omega), if_pos (by omega)]⟩
      · refine mj_iload_n d_Fr_numberAhead_37 rfl ?_
        refine mz_bipush d_Fr_numberAhead_38 (by decide) ?_
        refine mz_imul d_Fr_numberAhead_40 ?_
        refine mj_aload_n d_Fr_numberAhead_41 rfl ?_
        refine mj_aload_n d_Fr_numberAhead_42 rfl ?_
        refine mj_get (ci := 2) (j := 1) d_Fr_numberAhead_43 rfl w_Fr_21 (by decide) (by omega) (by assumption) rfl ?_
        refine mz_iconst d_Fr_numberAhead_46 ?_
        refine mz_iadd d_Fr_numberAhead_47 ?_
        refine mz_callV1i (ci := 1) d_Fr_numberAhead_48 (m_Ln_at (d := 0) hw hl0 (by omega)) cw_Ln_at lk_Fr_52 rfl rfl (by omega) (by assumption) (by omega) rfl (fun z_48 S_48 h_48 => ?_)
        obtain ⟨rfl, rfl⟩ := h_48
        refine mz_iadd d_Fr_numberAhead_51 ?_
        refine mz_bipush d_Fr_numberAhead_52 (by decide) ?_
        refine mz_isub d_Fr_numberAhead_54 ?_
        refine mz_ist3 d_Fr_numberAhead_55 (rfl) ?_
        refine mj_iload_n d_Fr_numberAhead_56 rfl ?_
        refine mz_iconst d_Fr_numberAhead_57 ?_
        refine mz_icmp_ne 65 d_Fr_numberAhead_58 (by decide) (by omega) (by omega) (fun c_58 => ?_) (fun c_58 => ?_)
        · refine mj_iload_n d_Fr_numberAhead_65 rfl ?_
          refine mz_iret d_Fr_numberAhead_66 rfl (rfl) ?_
          exact ⟨rfl, by rw [fnum, if_neg (by omega), show fnv n C a g = (ln_at n C a - 48) * 10 + ln_at n C ((a : Int) + 1) - 48 from if_pos (by omega), if_neg (by omega)]⟩
        · refine mz_iconst d_Fr_numberAhead_61 ?_
          refine mj_goto 66 d_Fr_numberAhead_62 (by decide) ?_
          refine mz_iret d_Fr_numberAhead_66 rfl (rfl) ?_
          exact ⟨rfl, by rw [fnum, if_neg (by omega), show fnv n C a g = (ln_at n C a - 48) * 10 + ln_at n C ((a : Int) + 1) - 48 from if_pos (by omega), if_pos (by omega)]⟩
    · refine mz_iconst d_Fr_numberAhead_18 ?_
      refine mz_iret d_Fr_numberAhead_19 rfl (rfl) ?_
      exact ⟨rfl, by unfold fnum; rw [if_pos (Or.inr c_15)]⟩
/-- the sum of the first m but the tenth -/
theorem m_Fr_heavyAtoms (hw : S.2.1 = 65) (hf : mj_fr3 S a A) (hA : ∀ j, j < 10 → A j = c j) (hc : ∀ j, j < 10 → c j ≤ 1000) : mj_Met Γ d y_Fr_heavyAtoms M_Fr_heavyAtoms [.ref 3] S 0 0 (mj_I fun z S' => S' = S ∧ z = tkS c 9) := by
  obtain ⟨f1, f2⟩ := hf
  refine mj_Met.of (by decide) ⟨rfl, rfl⟩ rfl rfl rfl ?_
  refine mz_iconst d_Fr_heavyAtoms_0 ?_
  refine mz_ist1 d_Fr_heavyAtoms_1 (rfl) ?_
  refine mz_iconst d_Fr_heavyAtoms_2 ?_
  refine mz_ist2 d_Fr_heavyAtoms_3 (rfl) ?_
  have loop : ∀ (m : Nat) (s : Int), m ≤ 9 → mj_Ok Γ d M_Fr_heavyAtoms 0 0 4 [.ref 3, .int (iZ s), .int (iZ ((9 - m : Nat) : Int))] [] S (mj_I fun z S' => S' = S ∧ z = s + tkS c m) := by
    intro m
    induction m with
    | zero =>
      intro s hm
      refine mj_iload_n d_Fr_heavyAtoms_4 rfl ?_
      refine mz_bipush d_Fr_heavyAtoms_5 (by decide) ?_
      refine mz_icmp_ge 31 d_Fr_heavyAtoms_7 (by decide) (by omega) (by omega) (fun c_7 => ?_) (fun c_7 => ?_)
      · omega
      · refine mj_iload_n d_Fr_heavyAtoms_10 rfl ?_
        refine mz_bipush d_Fr_heavyAtoms_11 (by decide) ?_
        refine mz_icmp_eq 25 d_Fr_heavyAtoms_13 (by decide) (by omega) (by omega) (fun c_13 => ?_) (fun c_13 => ?_)
        · refine mz_inc2 d_Fr_heavyAtoms_25 (rfl) ?_
          refine mj_goto 4 d_Fr_heavyAtoms_28 (by decide) ?_
          refine mj_iload_n d_Fr_heavyAtoms_4 rfl ?_
          refine mz_bipush d_Fr_heavyAtoms_5 (by decide) ?_
          refine mz_icmp_ge 31 d_Fr_heavyAtoms_7 (by decide) (by omega) (by omega) (fun c_7 => ?_) (fun c_7 => ?_)
          · refine mj_iload_n d_Fr_heavyAtoms_31 rfl ?_
            refine mz_iret d_Fr_heavyAtoms_32 rfl (rfl) ?_
            exact ⟨rfl, by simp [tkS]⟩
          · omega
        · omega
    | succ m ih =>
      intro s hm
      have hA9 := hA (9 - (m + 1)) (by omega)
      refine mj_iload_n d_Fr_heavyAtoms_4 rfl ?_
      refine mz_bipush d_Fr_heavyAtoms_5 (by decide) ?_
      refine mz_icmp_ge 31 d_Fr_heavyAtoms_7 (by decide) (by omega) (by omega) (fun c_7 => ?_) (fun c_7 => ?_)
      · omega
      · refine mj_iload_n d_Fr_heavyAtoms_10 rfl ?_
        refine mz_bipush d_Fr_heavyAtoms_11 (by decide) ?_
        refine mz_icmp_eq 25 d_Fr_heavyAtoms_13 (by decide) (by omega) (by omega) (fun c_13 => ?_) (fun c_13 => ?_)
        · omega
        · refine mj_iload_n d_Fr_heavyAtoms_16 rfl ?_
          refine mj_aload_n d_Fr_heavyAtoms_17 rfl ?_
          refine mj_get (ci := 2) (j := 0) d_Fr_heavyAtoms_18 rfl w_Fr_9 (by decide) (by omega) (by assumption) rfl ?_
          refine mj_iload_n d_Fr_heavyAtoms_21 rfl ?_
          refine mz_iald d_Fr_heavyAtoms_22 (by omega) (by assumption) (rfl) (by omega) ?_
          refine mz_iadd d_Fr_heavyAtoms_23 ?_
          refine mz_ist1 d_Fr_heavyAtoms_24 (rfl) ?_
          refine mz_inc2 d_Fr_heavyAtoms_25 (rfl) ?_
          refine mj_goto 4 d_Fr_heavyAtoms_28 (by decide) ?_
          have w := ih (s + A (9 - (m + 1))) (by omega)
          rw [show (9 - m : Nat) = 9 - (m + 1) + 1 by omega] at w
          refine mj_Ok.post (fun o S' hp => ?_) w
          cases o with
          | inr x => exact hp
          | inl v =>
            obtain ⟨z, e, h1, h2⟩ := hp
            exact ⟨z, e, h1, by rw [h2, hA9, tkS]; omega⟩
  have w := loop 9 0 (by omega)
  refine mj_Ok.post (fun o S' hp => ?_) w
  cases o with
  | inr x => exact hp
  | inl v =>
    obtain ⟨z, e, h1, h2⟩ := hp
    exact ⟨z, e, h1, by omega⟩
theorem mj_nt_up {A : Nat → Int} {c : Nat → Nat} (hA : ∀ j, j < 10 → A j = c j) {e v : Nat} : ∀ j, j < 10 → va_up A e (v : Int) j = (va_up c e v j : Nat) := by
  intro j hj
  by_cases q : j = e
  · subst q; rw [va_up_self, va_up_self]
  · rw [va_up_ne _ _ q, va_up_ne _ _ q]; exact hA j hj
theorem m_Fr_readElement (hT : mj_tab Γ) (hw : S.2.1 = 65) (hl : mj_ln S n C) (hf : mj_fr3 S a A) (hA : ∀ j, j < 10 → A j = c j) (hc : ∀ j, j < 10 → c j ≤ 1000) (hd : 2 ≤ d) (ha : a ≤ n) : mj_Met Γ d y_Fr_readElement M_Fr_readElement [.ref 3, .ref 1] S 0 0
    (mj_I fun z S' => mj_fr S S' [3, 4] ∧ ∃ A', z = (fstep n C a c).1 ∧ mj_fr3 S' (fstep n C a c).2.1 A' ∧ ∀ j, j < 10 → A' j = (fstep n C a c).2.2 j) := by
  have hl0 := hl
  have hf0 := hf
  obtain ⟨l1, l2, l3, l4⟩ := hl
  obtain ⟨f1, f2⟩ := hf
  have re := ln_el_r n C a
  refine mj_Met.of (by decide) ⟨rfl, rfl⟩ rfl rfl rfl ?_
  refine mj_aload_n d_Fr_readElement_0 rfl ?_
  refine mj_aload_n d_Fr_readElement_1 rfl ?_
  refine mj_get (ci := 2) (j := 1) d_Fr_readElement_2 rfl w_Fr_21 (by decide) (by omega) (by assumption) rfl ?_
  refine mz_callV1i (ci := 1) d_Fr_readElement_5 (m_Ln_elementAt (d := 1) hT hw hl0 (by omega) (by omega)) cw_Ln_elementAt lk_Fr_38 rfl rfl (by omega) (by assumption) (by omega) rfl (fun z_5 S_5 h_5 => ?_)
  obtain ⟨rfl, rfl⟩ := h_5
  refine mz_ist2 d_Fr_readElement_8 (rfl) ?_
  refine mj_iload_n d_Fr_readElement_9 rfl ?_
  refine mz_iconst d_Fr_readElement_10 ?_
  refine mz_icmp_ne 17 d_Fr_readElement_11 (by decide) (by omega) (by omega) (fun c_11 => ?_) (fun c_11 => ?_)
  · have hin := ln_el_in (n := n) (C := C) (a := a) c_11
    obtain ⟨e, he⟩ : ∃ e : Nat, ln_el n C a = e := ⟨(ln_el n C a).toNat, by omega⟩
    have he10 : e < 10 := by omega
    have het : (ln_el n C a).toNat = e := by omega
    rw [het] at hin
    have hAe := hA e he10
    have hce := hc e he10
    rw [he]
    refine mj_aload_n d_Fr_readElement_17 rfl ?_
    refine mj_get (ci := 2) (j := 0) d_Fr_readElement_18 rfl w_Fr_9 (by decide) (by omega) (by assumption) rfl ?_
    refine mj_iload_n d_Fr_readElement_21 rfl ?_
    refine mz_iald d_Fr_readElement_22 (by omega) (by assumption) (rfl) (by omega) ?_
    rw [hAe]
    refine mz_if_le 29 d_Fr_readElement_23 (by decide) (by omega) (fun c_23 => ?_) (fun c_23 => ?_)
    · refine mj_aload_n d_Fr_readElement_29 rfl ?_
      refine mj_dup d_Fr_readElement_30 rfl ?_
      refine mj_get (ci := 2) (j := 1) d_Fr_readElement_31 rfl w_Fr_21 (by decide) (by omega) (by assumption) rfl ?_
      refine mj_iload_n d_Fr_readElement_34 rfl ?_
      refine mz_callSN1i d_Fr_readElement_35 (m_IL_signLength (d := 0) hT he10) cw_IL_signLength lk_Fr_42 (by omega) rfl (fun z_35 S_35 h_35 => ?_)
      obtain ⟨rfl, rfl⟩ := h_35
      obtain ⟨L, hL⟩ : ∃ L : Nat, L = a + if mj_SND e = 0 then 1 else 2 := ⟨_, rfl⟩
      have hLi : (a : Int) + (if mj_SND e = 0 then 1 else 2) = (L : Int) := by rw [hL]; split <;> omega
      have hLn : L ≤ n := by omega
      refine mz_iadd d_Fr_readElement_38 ?_
      refine mz_put (ci := 2) (j := 1) d_Fr_readElement_39 rfl w_Fr_21 (by decide) rfl (by omega) (by assumption) (Nat.le_of_ble_eq_true rfl) (mj_fit_int _) rfl (fun S_39 w_39 e_39 f_39 => ?_)
      rw [hLi] at e_39
      have l1 := f_39.at l1 (by simp; try omega)
      have l2 := f_39.at l2 (by simp; try omega)
      have f2 := f_39.at f2 (by simp; try omega)
      have hl2 : mj_ln S_39 n C := ⟨l1, l2, l3, l4⟩
      have hf2 : mj_fr3 S_39 L A := ⟨e_39, f2⟩
      have hw2 := w_39.trans hw
      have hg := fdg_le n C 60 L hLn
      refine mj_aload_n d_Fr_readElement_42 rfl ?_
      refine mj_aload_n d_Fr_readElement_43 rfl ?_
      refine mz_callV1i (ci := 2) d_Fr_readElement_44 (m_Fr_digitsAhead (d := 1) hw2 hl2 hf2 (by omega) hLn) cw_Fr_digitsAhead lk_Fr_45 rfl rfl (by omega) (by assumption) (by omega) rfl (fun z_44 S_44 h_44 => ?_)
      obtain ⟨rfl, rfl⟩ := h_44
      refine mz_ist3 d_Fr_readElement_47 (rfl) ?_
      refine mj_iload_n d_Fr_readElement_48 rfl ?_
      refine mz_if_ne 56 d_Fr_readElement_49 (by decide) (by omega) (fun c_49 => ?_) (fun c_49 => ?_)
      · refine mj_aload_n d_Fr_readElement_56 rfl ?_
        refine mj_aload_n d_Fr_readElement_57 rfl ?_
        refine mj_iload_n d_Fr_readElement_58 rfl ?_
        refine mz_callV2i (ci := 2) d_Fr_readElement_59 (m_Fr_numberAhead (d := 1) hw2 hl2 hf2 (by omega) hLn (by omega)) cw_Fr_numberAhead lk_Fr_48 rfl rfl (by omega) (by assumption) (by omega) rfl (fun z_59 S_59 h_59 => ?_)
        obtain ⟨rfl, rfl⟩ := h_59
        have hnr := fnum_r (n := n) (C := C) (m := 60) (a := L) (by omega)
        refine mz_ist4 d_Fr_readElement_62 (rfl) ?_
        refine mj_iload d_Fr_readElement_64 rfl ?_
        refine mz_iconst d_Fr_readElement_66 ?_
        refine mz_icmp_ne 73 d_Fr_readElement_67 (by decide) (by omega) (by omega) (fun c_67 => ?_) (fun c_67 => ?_)
        · obtain ⟨v, hv⟩ : ∃ v : Nat, fnum n C L (fdg n C 60 L) = v := ⟨(fnum n C L (fdg n C 60 L)).toNat, by omega⟩
          rw [hv]
          refine mj_aload_n d_Fr_readElement_73 rfl ?_
          refine mj_get (ci := 2) (j := 0) d_Fr_readElement_74 rfl w_Fr_9 (by decide) (by omega) (by assumption) rfl ?_
          refine mj_iload_n d_Fr_readElement_77 rfl ?_
          refine mj_iload d_Fr_readElement_78 rfl ?_
          refine mz_iast d_Fr_readElement_80 (by omega) (by assumption) (rfl) (by omega) (fun S_80 w_80 e_80 f_80 => ?_)
          have e_39 := f_80.at e_39 (by simp; try omega)
          refine mj_aload_n d_Fr_readElement_81 rfl ?_
          refine mj_dup d_Fr_readElement_82 rfl ?_
          refine mj_get (ci := 2) (j := 1) d_Fr_readElement_83 rfl w_Fr_21 (by decide) (by omega) (by assumption) rfl ?_
          refine mj_iload_n d_Fr_readElement_86 rfl ?_
          refine mz_iadd d_Fr_readElement_87 ?_
          refine mz_put (ci := 2) (j := 1) d_Fr_readElement_88 rfl w_Fr_21 (by decide) rfl (by omega) (by assumption) (Nat.le_of_ble_eq_true rfl) (mj_fit_int _) rfl (fun S_88 w_88 e_88 f_88 => ?_)
          have e_80 := f_88.at e_80 (by simp; try omega)
          refine mz_iconst d_Fr_readElement_91 ?_
          refine mz_iret d_Fr_readElement_92 rfl (rfl) ?_
          refine ⟨(f_39.tr f_80 (l := [3, 4]) (by simp) (by simp)).tr f_88 (by simp) (by simp), va_up A e v, ?_⟩
          have hstep : fstep n C a c = (-1, L + fdg n C 60 L, va_up c e v) := by
            unfold fstep
            rw [if_neg c_11, het, if_neg (by omega), ← hL, if_neg (by omega), if_neg c_67, hv]
            rfl
          rw [hstep]
          exact ⟨rfl, ⟨e_88, e_80⟩, mj_nt_up hA⟩
        · refine mz_bipush d_Fr_readElement_70 (by decide) ?_
          refine mz_iret d_Fr_readElement_72 rfl (rfl) ?_
          refine ⟨f_39.tr (mj_fr.rf _ []) (by simp) (by simp), A, ?_⟩
          have hstep : fstep n C a c = (-4, L, c) := by
            unfold fstep
            rw [if_neg c_11, het, if_neg (by omega), ← hL, if_neg (by omega), if_pos c_67]
          rw [hstep]
          exact ⟨rfl, ⟨e_39, f2⟩, hA⟩
      · refine mz_iconst d_Fr_readElement_52 ?_
        refine mj_goto 62 d_Fr_readElement_53 (by decide) ?_
        refine mz_ist4 d_Fr_readElement_62 (rfl) ?_
        refine mj_iload d_Fr_readElement_64 rfl ?_
        refine mz_iconst d_Fr_readElement_66 ?_
        refine mz_icmp_ne 73 d_Fr_readElement_67 (by decide) (by omega) (by omega) (fun c_67 => ?_) (fun c_67 => ?_)
        · refine mj_aload_n d_Fr_readElement_73 rfl ?_
          refine mj_get (ci := 2) (j := 0) d_Fr_readElement_74 rfl w_Fr_9 (by decide) (by omega) (by assumption) rfl ?_
          refine mj_iload_n d_Fr_readElement_77 rfl ?_
          refine mj_iload d_Fr_readElement_78 rfl ?_
          refine mz_iast d_Fr_readElement_80 (by omega) (by assumption) (rfl) (by omega) (fun S_80 w_80 e_80 f_80 => ?_)
          have e_39 := f_80.at e_39 (by simp; try omega)
          refine mj_aload_n d_Fr_readElement_81 rfl ?_
          refine mj_dup d_Fr_readElement_82 rfl ?_
          refine mj_get (ci := 2) (j := 1) d_Fr_readElement_83 rfl w_Fr_21 (by decide) (by omega) (by assumption) rfl ?_
          refine mj_iload_n d_Fr_readElement_86 rfl ?_
          refine mz_iadd d_Fr_readElement_87 ?_
          refine mz_put (ci := 2) (j := 1) d_Fr_readElement_88 rfl w_Fr_21 (by decide) rfl (by omega) (by assumption) (Nat.le_of_ble_eq_true rfl) (mj_fit_int _) rfl (fun S_88 w_88 e_88 f_88 => ?_)
          have e_80 := f_88.at e_80 (by simp; try omega)
          refine mz_iconst d_Fr_readElement_91 ?_
          refine mz_iret d_Fr_readElement_92 rfl (rfl) ?_
          refine ⟨(f_39.tr f_80 (l := [3, 4]) (by simp) (by simp)).tr f_88 (by simp) (by simp), va_up A e 1, ?_⟩
          have hstep : fstep n C a c = (-1, L, va_up c e 1) := by
            unfold fstep
            rw [if_neg c_11, het, if_neg (by omega), ← hL, if_pos (by omega)]
          rw [hstep]
          refine ⟨rfl, ⟨?_, e_80⟩, mj_nt_up hA⟩
          rw [e_88, c_49, Int.add_zero]
          rfl
        · omega
    · refine mz_bipush d_Fr_readElement_26 (by decide) ?_
      refine mz_iret d_Fr_readElement_28 rfl (rfl) ?_
      refine ⟨mj_fr.rf _ _, A, ?_⟩
      have hstep : fstep n C a c = (-3, a, c) := by
        unfold fstep
        rw [if_neg c_11, het, if_pos (by omega)]
      rw [hstep]
      exact ⟨rfl, ⟨f1, f2⟩, hA⟩
  · refine mz_bipush d_Fr_readElement_14 (by decide) ?_
    refine mz_iret d_Fr_readElement_16 rfl (rfl) ?_
    refine ⟨mj_fr.rf _ _, A, ?_⟩
    have hstep : fstep n C a c = (-2, a, c) := by
      unfold fstep
      rw [if_pos c_11]
    rw [hstep]
    exact ⟨rfl, ⟨f1, f2⟩, hA⟩
end FR
