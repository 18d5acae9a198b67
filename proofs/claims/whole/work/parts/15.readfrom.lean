/-! the reader of formulas as a whole -/
theorem fstep_ok {n a : Nat} {C : Nat → Int} {c : Nat → Nat} (ha : a ≤ n) (hc : ∀ j, j < 10 → c j ≤ 99) : (fstep n C a c).2.1 ≤ n ∧ (∀ j, j < 10 → (fstep n C a c).2.2 j ≤ 99) ∧ ((fstep n C a c).1 = -1 → a < (fstep n C a c).2.1) ∧ -4 ≤ (fstep n C a c).1 ∧ (fstep n C a c).1 ≤ -1 := by
  unfold fstep
  split
  · exact ⟨ha, hc, fun h => absurd h (by simp), by simp, by simp⟩
  · rename_i q1
    have hin := ln_el_in q1
    split
    · exact ⟨ha, hc, fun h => absurd h (by simp), by simp, by simp⟩
    · obtain ⟨L, hL⟩ : ∃ L : Nat, L = a + if mj_SND (ln_el n C a).toNat = 0 then 1 else 2 := ⟨_, rfl⟩
      have hLa : a < L := by rw [hL]; split <;> omega
      rw [← hL] at hin ⊢
      have hg := fdg_le n C 60 L hin.2
      split
      · refine ⟨hin.2, fun j hj => ?_, fun _ => hLa, by simp, by simp⟩
        by_cases e : j = (ln_el n C a).toNat
        · subst e; show va_up c _ 1 _ ≤ 99; rw [va_up_self]; decide
        · show va_up c _ 1 _ ≤ 99; rw [va_up_ne _ _ e]; exact hc j hj
      · rename_i q3
        have hr := fnum_r (n := n) (C := C) (m := 60) (a := L) (by omega)
        split
        · exact ⟨hin.2, hc, fun h => absurd h (by simp), by simp, by simp⟩
        · refine ⟨hg, fun j hj => ?_, fun _ => by show a < L + _; omega, by simp, by simp⟩
          by_cases e : j = (ln_el n C a).toNat
          · subst e; show va_up c _ _ _ ≤ 99; rw [va_up_self]; omega
          · show va_up c _ _ _ ≤ 99; rw [va_up_ne _ _ e]; exact hc j hj
def floop (n : Nat) (C : Nat → Int) : Nat → Nat → (Nat → Nat) → Int × Nat × (Nat → Nat)
  | 0, a, c => (-1, a, c)
  | m + 1, a, c => if a < n then (if (fstep n C a c).1 = -1 then floop n C m (fstep n C a c).2.1 (fstep n C a c).2.2 else fstep n C a c) else (-1, a, c)
theorem floop_ok {n : Nat} {C : Nat → Int} : ∀ (m a : Nat) (c : Nat → Nat), a ≤ n → n ≤ a + m → (∀ j, j < 10 → c j ≤ 99) → (floop n C m a c).2.1 ≤ n ∧ (∀ j, j < 10 → (floop n C m a c).2.2 j ≤ 99) ∧ ((floop n C m a c).1 = -1 → (floop n C m a c).2.1 = n) ∧ -4 ≤ (floop n C m a c).1 ∧ (floop n C m a c).1 ≤ -1 := by
  intro m
  induction m with
  | zero => intro a c ha hm hc; exact ⟨ha, hc, fun _ => by show a = n; omega, by show (-4 : Int) ≤ -1; decide, by show (-1 : Int) ≤ -1; decide⟩
  | succ m ih =>
    intro a c ha hm hc
    have h := fstep_ok (C := C) ha hc
    unfold floop
    split
    · split
      · rename_i q
        exact ih _ _ h.1 (by have := h.2.2.1 q; omega) h.2.1
      · rename_i q
        exact ⟨h.1, h.2.1, fun z => absurd z q, h.2.2.2⟩
    · exact ⟨ha, hc, fun _ => by show a = n; omega, by simp, by simp⟩
/-- a line read as a formula: what is wrong (-1: nothing), the place, the counts -/
def fread (n : Nat) (C : Nat → Int) : Int × Nat × (Nat → Nat) :=
  if n = 0 then (-2, 0, fun _ => 0) else
  if (floop n C 60 0 (fun _ => 0)).1 = -1 then (if tkS (floop n C 60 0 (fun _ => 0)).2.2 9 < 1 ∨ 6 < tkS (floop n C 60 0 (fun _ => 0)).2.2 9 then -5 else -1, n, (floop n C 60 0 (fun _ => 0)).2.2) else floop n C 60 0 (fun _ => 0)
theorem tkS_le {c : Nat → Nat} (hc : ∀ j, j < 10 → c j ≤ 99) : ∀ m, m ≤ 9 → tkS c m ≤ 99 * m := by
  intro m
  induction m with
  | zero => intro _; exact Nat.le_refl _
  | succ m ih =>
    intro h
    have := hc (9 - (m + 1)) (by omega)
    have := ih (by omega)
    unfold tkS
    omega
section RF
variable {Γ : mj_G} {d n a : Nat} {S : mj_S} {C A : Nat → Int}
theorem m_Fr_readFrom (hT : mj_tab Γ) (hw : S.2.1 = 65) (hl : mj_ln S n C) (hf : mj_fr3 S a A) (hd : 3 ≤ d) : mj_Met Γ d y_Fr_readFrom M_Fr_readFrom [.ref 3, .ref 1] S 0 0
    (mj_I fun z S' => mj_fr S S' [3, 4] ∧ ∃ A', z = (fread n C).1 ∧ mj_fr3 S' (fread n C).2.1 A' ∧ ∀ j, j < 10 → A' j = (fread n C).2.2 j) := by
  obtain ⟨f1, f2⟩ := hf
  have ln := hl.2.2.1
  have l1 := hl.1
  refine mj_Met.of (by decide) ⟨rfl, rfl⟩ rfl rfl rfl ?_
  refine mj_aload_n d_Fr_readFrom_0 rfl ?_
  refine mj_get (ci := 2) (j := 0) d_Fr_readFrom_1 rfl w_Fr_9 (by decide) (by omega) (by assumption) rfl ?_
  refine mz_iconst d_Fr_readFrom_4 ?_
  refine mz_callS2v d_Fr_readFrom_5 (m_Ar_fill (d := 0) (by omega) f2 (by omega)) cw_Ar_fill lk_Fr_15 (by omega) rfl (fun S_5 h_5 => ?_)
  obtain ⟨g1, g2⟩ := h_5
  have hw5 := g1.w
  have f1 := g1.at f1 (by simp; try omega)
  have l1 := g1.at l1 (by simp; try omega)
  refine mj_aload_n d_Fr_readFrom_8 rfl ?_
  refine mz_iconst d_Fr_readFrom_9 ?_
  refine mz_put (ci := 2) (j := 1) d_Fr_readFrom_10 rfl w_Fr_21 (by decide) rfl (by omega) (by assumption) (Nat.le_of_ble_eq_true rfl) (mj_fit_int _) rfl (fun S_10 w_10 e_10 f_10 => ?_)
  have g2 := f_10.at g2 (by simp; try omega)
  have l1 := f_10.at l1 (by simp; try omega)
  have hA0 : ∀ j, j < 10 → mj_fl A 0 10 j = ((fun _ => 0 : Nat → Nat) j : Int) := fun j hj => by simp [mj_fl, hj]
  have fr0 : mj_fr S S_10 [3, 4] := g1.tr f_10 (by simp) (by simp)
  refine mj_aload_n d_Fr_readFrom_13 rfl ?_
  refine mj_get (ci := 1) (j := 1) d_Fr_readFrom_14 rfl w_Fr_25 (by decide) (by omega) (by assumption) rfl ?_
  refine mz_if_ne 23 d_Fr_readFrom_17 (by decide) (by omega) (fun c_17 => ?_) (fun c_17 => ?_)
  · refine mz_iconst d_Fr_readFrom_23 ?_
    refine mz_ist2 d_Fr_readFrom_24 (rfl) ?_
    have loop : ∀ (m a : Nat) (c : Nat → Nat) (S1 : mj_S) (A1 : Nat → Int), m ≤ 60 → a ≤ n → n ≤ a + m → (∀ j, j < 10 → c j ≤ 99) → mj_fr S S1 [3, 4] → mj_fr3 S1 a A1 → (∀ j, j < 10 → A1 j = c j) → ∀ x3 : Value, x3.category = 1 → mj_Ok Γ d M_Fr_readFrom 0 0 25 [.ref 3, .ref 1, .int (iZ ((60 - m : Nat) : Int)), x3] [] S1
        (mj_I fun z S' => mj_fr S S' [3, 4] ∧ ∃ A', z = (if (floop n C m a c).1 = -1 then (if tkS (floop n C m a c).2.2 9 < 1 ∨ 6 < tkS (floop n C m a c).2.2 9 then -5 else -1) else (floop n C m a c).1) ∧ mj_fr3 S' (floop n C m a c).2.1 A' ∧ ∀ j, j < 10 → A' j = (floop n C m a c).2.2 j) := by
      have fin : ∀ (a : Nat) (c : Nat → Nat) (S1 : mj_S) (A1 : Nat → Int) (x2 x3 : Value), (∀ j, j < 10 → c j ≤ 99) → mj_fr S S1 [3, 4] → mj_fr3 S1 a A1 → (∀ j, j < 10 → A1 j = c j) → x2.category = 1 → x3.category = 1 → mj_Ok Γ d M_Fr_readFrom 0 0 61 [.ref 3, .ref 1, x2, x3] [] S1
          (mj_I fun z S' => mj_fr S S' [3, 4] ∧ ∃ A', z = (if tkS c 9 < 1 ∨ 6 < tkS c 9 then -5 else -1) ∧ mj_fr3 S' a A' ∧ ∀ j, j < 10 → A' j = c j) := by
        intro a c S1 A1 x2 x3 hc hfr hf3 hA hx2 hx3
        have hw1 := hfr.w
        have q1 := hf3.1
        have hle := tkS_le hc 9 (by omega)
        refine mj_aload_n d_Fr_readFrom_61 rfl ?_
        refine mz_callV0i (ci := 2) d_Fr_readFrom_62 (m_Fr_heavyAtoms (d := 0) (c := c) (by omega) hf3 hA (fun j hj => by have := hc j hj; omega)) cw_Fr_heavyAtoms lk_Fr_34 rfl rfl (by omega) (by assumption) (by omega) rfl (fun z_62 S_62 h_62 => ?_)
        obtain ⟨rfl, rfl⟩ := h_62
        refine mz_ist2 d_Fr_readFrom_65 (by unfold mj_c1; simp only [List.all_cons, hx2, hx3]; rfl) ?_
        refine mj_iload_n d_Fr_readFrom_66 rfl ?_
        refine mz_iconst d_Fr_readFrom_67 ?_
        refine mz_icmp_lt 77 d_Fr_readFrom_68 (by decide) (by omega) (by omega) (fun c_68 => ?_) (fun c_68 => ?_)
        · refine mz_bipush d_Fr_readFrom_77 (by decide) ?_
          refine mj_goto 83 d_Fr_readFrom_79 (by decide) ?_
          refine mz_iret d_Fr_readFrom_83 rfl (rfl) ?_
          exact ⟨hfr, A1, by rw [if_pos (by omega)], hf3, hA⟩
        · refine mj_iload_n d_Fr_readFrom_71 rfl ?_
          refine mz_bipush d_Fr_readFrom_72 (by decide) ?_
          refine mz_icmp_le 82 d_Fr_readFrom_74 (by decide) (by omega) (by omega) (fun c_74 => ?_) (fun c_74 => ?_)
          · refine mz_iconst d_Fr_readFrom_82 ?_
            refine mz_iret d_Fr_readFrom_83 rfl (rfl) ?_
            exact ⟨hfr, A1, by rw [if_neg (by omega)], hf3, hA⟩
          · refine mz_bipush d_Fr_readFrom_77 (by decide) ?_
            refine mj_goto 83 d_Fr_readFrom_79 (by decide) ?_
            refine mz_iret d_Fr_readFrom_83 rfl (rfl) ?_
            exact ⟨hfr, A1, by rw [if_pos (by omega)], hf3, hA⟩
      intro m
      induction m with
      | zero =>
        intro a c S1 A1 hm ha hn hc hfr hf3 hA x3 hx3
        have w := fin a c S1 A1 (.int (iZ ((60 - 0 : Nat) : Int))) x3 hc hfr hf3 hA rfl hx3
        refine mj_iload_n d_Fr_readFrom_25 rfl ?_
        refine mz_bipush d_Fr_readFrom_26 (by decide) ?_
        refine mz_icmp_ge 61 d_Fr_readFrom_28 (by decide) (by omega) (by omega) (fun c_28 => ?_) (fun c_28 => ?_)
        · exact w
        · omega
      | succ m ih =>
        intro a c S1 A1 hm ha hn hc hfr hf3 hA x3 hx3
        have hw1 := hfr.w
        have q1 := hf3.1
        have hl1 : mj_ln S1 n C := hl.fr hfr (by simp) (by simp)
        have q2 := hl1.1
        have hs := fstep_ok (C := C) ha hc
        refine mj_iload_n d_Fr_readFrom_25 rfl ?_
        refine mz_bipush d_Fr_readFrom_26 (by decide) ?_
        refine mz_icmp_ge 61 d_Fr_readFrom_28 (by decide) (by omega) (by omega) (fun c_28 => ?_) (fun c_28 => ?_)
        · omega
        · refine mj_aload_n d_Fr_readFrom_31 rfl ?_
          refine mj_get (ci := 2) (j := 1) d_Fr_readFrom_32 rfl w_Fr_21 (by decide) (by omega) (by assumption) rfl ?_
          refine mj_aload_n d_Fr_readFrom_35 rfl ?_
          refine mj_get (ci := 1) (j := 1) d_Fr_readFrom_36 rfl w_Fr_25 (by decide) (by omega) (by assumption) rfl ?_
          refine mz_icmp_ge 61 d_Fr_readFrom_39 (by decide) (by omega) (by omega) (fun c_39 => ?_) (fun c_39 => ?_)
          · have w := fin a c S1 A1 (.int (iZ ((60 - (m + 1) : Nat) : Int))) x3 hc hfr hf3 hA rfl hx3
            have ef : floop n C (m + 1) a c = (-1, a, c) := by rw [floop, if_neg (by omega)]
            rw [ef, if_pos rfl]
            exact w
          · refine mj_aload_n d_Fr_readFrom_42 rfl ?_
            refine mj_aload_n d_Fr_readFrom_43 rfl ?_
            refine mz_callV1i (ci := 2) d_Fr_readFrom_44 (m_Fr_readElement (d := 2) (c := c) hT (by omega) hl1 hf3 hA (fun j hj => by have := hc j hj; omega) (by omega) ha) cw_Fr_readElement lk_Fr_30 rfl rfl (by omega) (by assumption) (by omega) rfl (fun z_44 S_44 h_44 => ?_)
            obtain ⟨g3, A2, rfl, hf4, hA2⟩ := h_44
            refine mz_ist3 d_Fr_readFrom_47 (by unfold mj_c1; simp only [List.all_cons, hx3]; rfl) ?_
            refine mj_iload_n d_Fr_readFrom_48 rfl ?_
            refine mz_iconst d_Fr_readFrom_49 ?_
            refine mz_icmp_eq 55 d_Fr_readFrom_50 (by decide) (by omega) (by omega) (fun c_50 => ?_) (fun c_50 => ?_)
            · refine mz_inc2 d_Fr_readFrom_55 (rfl) ?_
              refine mj_goto 25 d_Fr_readFrom_58 (by decide) ?_
              have w := ih (fstep n C a c).2.1 (fstep n C a c).2.2 S_44 A2 (by omega) hs.1 (by have := hs.2.2.1 c_50; omega) hs.2.1 (hfr.tr g3 (by simp) (by simp)) hf4 hA2 (.int (iZ (fstep n C a c).1)) rfl
              rw [show (60 - m : Nat) = 60 - (m + 1) + 1 by omega] at w
              have ef : floop n C (m + 1) a c = floop n C m (fstep n C a c).2.1 (fstep n C a c).2.2 := by rw [floop, if_pos (by omega), if_pos c_50]
              rw [ef]
              exact w
            · refine mj_iload_n d_Fr_readFrom_53 rfl ?_
              refine mz_iret d_Fr_readFrom_54 rfl (rfl) ?_
              have ef : floop n C (m + 1) a c = fstep n C a c := by rw [floop, if_pos (by omega), if_neg c_50]
              rw [ef, if_neg c_50]
              exact ⟨hfr.tr g3 (by simp) (by simp), A2, rfl, hf4, hA2⟩
    have w := loop 60 0 (fun _ => 0) S_10 (mj_fl A 0 10) (by omega) (by omega) (by omega) (fun j hj => by decide) fr0 ⟨e_10, g2⟩ hA0 (.retAddr 0) rfl
    refine mj_Ok.post (fun o S' hp => ?_) w
    cases o with
    | inr x => exact hp
    | inl v =>
      obtain ⟨z, e, h1, A', h2, h3, h4⟩ := hp
      have hok := floop_ok (C := C) 60 0 (fun _ => 0) (Nat.zero_le n) (by omega) (fun j hj => by decide)
      refine ⟨z, e, h1, A', ?_⟩
      unfold fread
      rw [if_neg (by omega)]
      split
      · rename_i q
        rw [if_pos q] at h2
        rw [hok.2.2.1 q] at h3
        exact ⟨h2, h3, h4⟩
      · rename_i q
        rw [if_neg q] at h2
        exact ⟨h2, h3, h4⟩
  · refine mz_bipush d_Fr_readFrom_20 (by decide) ?_
    refine mz_iret d_Fr_readFrom_22 rfl (rfl) ?_
    have hn : n = 0 := by omega
    unfold fread
    rw [if_pos hn]
    exact ⟨fr0, mj_fl A 0 10, rfl, ⟨e_10, g2⟩, hA0⟩
end RF
