/-! the reference: the greatest code of a molecule's numberings -/
/-- which of two rows of digits is the greater: the first difference tells -/
def lx (a b : Nat → Int) : Nat → Int
  | 0 => 0
  | p + 1 => if lx a b p = 0 then (if b p < a p then 1 else if a p < b p then -1 else 0) else lx a b p
theorem lx_r (a b : Nat → Int) (p : Nat) : lx a b p = 0 ∨ lx a b p = 1 ∨ lx a b p = -1 := by
  induction p with
  | zero => exact Or.inl rfl
  | succ p ih =>
    rw [lx]
    by_cases q : lx a b p = 0
    · rw [if_pos q]
      split
      · exact Or.inr (Or.inl rfl)
      · split
        · exact Or.inr (Or.inr rfl)
        · exact Or.inl rfl
    · rw [if_neg q]; exact ih
theorem lx_zero {a b : Nat → Int} : ∀ p, lx a b p = 0 → ∀ q, q < p → a q = b q := by
  intro p
  induction p with
  | zero => intro _ q h; exact absurd h (Nat.not_lt_zero q)
  | succ p ih =>
    intro h q hq
    rw [lx] at h
    by_cases c : lx a b p = 0
    · rw [if_pos c] at h
      by_cases e : q = p
      · subst e
        by_cases c1 : b q < a q
        · rw [if_pos c1] at h; exact absurd h (by decide)
        · rw [if_neg c1] at h
          by_cases c2 : a q < b q
          · rw [if_pos c2] at h; exact absurd h (by decide)
          · omega
      · exact ih c q (by omega)
    · rw [if_neg c] at h; exact absurd h c
theorem lx_congr {a a' b b' : Nat → Int} : ∀ p, (∀ q, q < p → a q = a' q ∧ b q = b' q) → lx a b p = lx a' b' p := by
  intro p
  induction p with
  | zero => intro _; rfl
  | succ p ih =>
    intro h
    have hp := h p (by omega)
    rw [lx, lx, ih (fun q hq => h q (by omega)), hp.1, hp.2]
/-- the digits of a numbering -/
def ndf (B : Nat → Int) (ch : Nat → Nat) (p : Nat) : Int := B (ch (up6 p) * 6 + ch (lo6 p))
/-- the greater of two -/
def tkF (P : Nat) (nd bs : Nat → Int) (p : Nat) : Int := if p < P ∧ lx nd bs P = 1 then nd p else bs p
/-- all numberings tried; has there been one, and the greatest digits -/
def gmI (n : Nat) (KM2 KW : Nat → Nat) (B : Nat → Int) : Nat → Nat → (Nat → Nat) → (Nat → Bool) → Bool × (Nat → Int) → Bool × (Nat → Int)
  | 0, _, ch, _, st => (true, tkF (pr n 0) (ndf B ch) st.2)
  | r + 1, k, ch, tk, st => chR (fun a st => if tk a = false ∧ KM2 a = KW k then gmI n KM2 KW B r (k + 1) (va_up ch k a) (va_up tk a true) st else st) n 0 st
section GR1
variable {Γ : mj_G} {d n : Nat} {S : mj_S} {rf sz wr hy sr tr rs fo sg : Int} {Nb Bs B : Nat → Int} {ch : Nat → Nat}
theorem m_Mo_take (hw : S.2.1 = 65) (h : mo_st S rf sz wr n hy sr tr rs fo sg) (h46 : S.1 49 = .inl (0, 7, .inl (mj_z Nb))) (h49 : S.1 52 = .inl (0, 36, .inl (mj_z B))) (h50 : S.1 53 = .inl (0, 15, .inl (mj_z Bs))) (hn : n ≤ 6) (hn1 : 1 ≤ n) (hN : ∀ j, j < n → Nb j = ch j ∧ ch j < 6) (hB : ∀ j, j < 36 → 0 ≤ B j ∧ B j ≤ 3) (hBs : ∀ j, j < 15 → -1 ≤ Bs j ∧ Bs j ≤ 3) (hd : 1 ≤ d) :
    mj_Met Γ d y_Mo_take M_Mo_take [.ref 40] S 0 0 (mj_V fun S' => mj_fr S S' [53] ∧ ∃ Bs', S'.1 53 = .inl (0, 15, .inl (mj_z Bs')) ∧ ∀ p, p < 15 → Bs' p = tkF (pr n 0) (ndf B ch) Bs p) := by
  have h1 : S.1 40 = _ := h
  refine mj_Met.of (by decide) ⟨rfl, rfl⟩ rfl rfl rfl ?_
  refine mz_iconst d_Mo_take_0 ?_
  refine mz_ist1 d_Mo_take_1 (rfl) ?_
  refine mz_iconst d_Mo_take_2 ?_
  refine mz_ist2 d_Mo_take_3 (rfl) ?_
  have prs : ∀ k, k < 6 → pr (k + 1) 0 = pr k k := by decide
  have outer : ∀ (q k : Nat) (S2 : mj_S) (B2 : Nat → Int) (x3 x4 x5 : Value), c1 x3 → c1 x4 → c1 x5 → k + q = n → 1 ≤ k → mj_fr S S2 [53] → S2.1 53 = .inl (0, 15, .inl (mj_z B2)) → (∀ p, p < 15 → B2 p = if p < pr k 0 ∧ lx (ndf B ch) Bs (pr k 0) = 1 then ndf B ch p else Bs p) → mj_Ok Γ d M_Mo_take 0 0 4 [.ref 40, .int (iZ (lx (ndf B ch) Bs (pr k 0))), .int (iZ k), x3, x4, x5] [] S2 (mj_V fun S' => mj_fr S S' [53] ∧ ∃ Bs', S'.1 53 = .inl (0, 15, .inl (mj_z Bs')) ∧ ∀ p, p < 15 → Bs' p = tkF (pr n 0) (ndf B ch) Bs p) := by
    intro q
    induction q with
    | zero =>
      intro k S2 B2 x3 x4 x5 g3 g4 g5 hk hk1 f2 e2 b2
      have : k = n := by omega
      subst this
      have h12 := f2.at h1 (by simp)
      have hw2 := f2.w.trans hw
      refine mj_iload_n d_Mo_take_4 rfl ?_
      refine mj_aload_n d_Mo_take_5 rfl ?_
      refine mj_get (ci := 9) (j := 4) d_Mo_take_6 rfl w_Mo_129 (by decide) (by omega) (by assumption) rfl ?_
      refine mz_icmp_ge 116 d_Mo_take_9 (by decide) (by omega) (by omega) (fun c_9 => ?_) (fun c_9 => ?_)
      · refine mz_vret d_Mo_take_116 rfl ?_
        exact ⟨f2, B2, e2, b2⟩
      · omega
    | succ q ih =>
      intro k S2 B2 x3 x4 x5 g3 g4 g5 hk hk1 f2 e2 b2
      have nk := hN k (by omega)
      have inner : ∀ (r j : Nat) (S3 : mj_S) (B3 : Nat → Int) (x4 x5 : Value), c1 x4 → c1 x5 → j + r = k → mj_fr S S3 [53] → S3.1 53 = .inl (0, 15, .inl (mj_z B3)) → (∀ p, p < 15 → B3 p = if p < pr k j ∧ lx (ndf B ch) Bs (pr k j) = 1 then ndf B ch p else Bs p) → mj_Ok Γ d M_Mo_take 0 0 14 [.ref 40, .int (iZ (lx (ndf B ch) Bs (pr k j))), .int (iZ k), .int (iZ j), x4, x5] [] S3 (mj_V fun S' => mj_fr S S' [53] ∧ ∃ Bs', S'.1 53 = .inl (0, 15, .inl (mj_z Bs')) ∧ ∀ p, p < 15 → Bs' p = tkF (pr n 0) (ndf B ch) Bs p) := by
        intro r
        induction r with
        | zero =>
          intro j S3 B3 x4 x5 g4 g5 hj f3 e3 b3
          have : j = k := by omega
          subst this
          refine mj_iload_n d_Mo_take_14 rfl ?_
          refine mj_iload_n d_Mo_take_15 rfl ?_
          refine mz_icmp_ge 110 d_Mo_take_16 (by decide) (by omega) (by omega) (fun c_16 => ?_) (fun c_16 => ?_)
          · refine mz_inc2 d_Mo_take_110 (by unfold mj_c1; simp only [List.all_cons, g4, g5]; rfl) ?_
            refine mj_goto 4 d_Mo_take_113 (by decide) ?_
            have w := ih (j + 1) S3 B3 (.int (iZ j)) x4 x5 rfl g4 g5 (by omega) (by omega) f3 e3 (by rw [prs j (by omega)]; exact b3)
            rw [prs j (by omega), show ((j + 1 : Nat) : Int) = (j : Int) + 1 by omega] at w
            exact w
          · omega
        | succ r ihr =>
          intro j S3 B3 x4 x5 g4 g5 hj f3 e3 b3
          have nj := hN j (by omega)
          have h13 := f3.at h1 (by simp)
          have h463 := f3.at h46 (by simp)
          have h493 := f3.at h49 (by simp)
          have hw3 := f3.w.trans hw
          have ep : pr k (j + 1) = pr k j + 1 := by unfold pr; omega
          have u := ul6_pr k (by omega) j (by omega)
          have p15 := pr_lt k (by omega) j (by omega)
          obtain ⟨p, hp⟩ : ∃ p, p = pr k j := ⟨_, rfl⟩
          rw [← hp] at ep u p15 b3 ⊢
          have hnd : B (ch k * 6 + ch j) = ndf B ch p := by unfold ndf; rw [u.1, u.2]
          have hBv := hB (ch k * 6 + ch j) (by omega)
          have hBsp := hBs p p15
          have hB3p : B3 p = Bs p := by rw [b3 p p15, if_neg (by omega)]
          have lr := lx_r (ndf B ch) Bs p
          -- the rest, whichever comes out
          have fin : ∀ (s : Int), s = lx (ndf B ch) Bs (p + 1) → mj_Ok Γ d M_Mo_take 0 0 90 [.ref 40, .int (iZ (lx (ndf B ch) Bs p)), .int (iZ k), .int (iZ j), .int (iZ (ndf B ch p)), .int (iZ p)] [.int (iZ s)] S3 (mj_V fun S' => mj_fr S S' [53] ∧ ∃ Bs', S'.1 53 = .inl (0, 15, .inl (mj_z Bs')) ∧ ∀ p, p < 15 → Bs' p = tkF (pr n 0) (ndf B ch) Bs p) := by
            intro s hs
            have sr := lx_r (ndf B ch) Bs (p + 1)
            rw [← hs] at sr
            have eqs : lx (ndf B ch) Bs p = 0 → ∀ q, q < p → ndf B ch q = Bs q := lx_zero p
            have next : ∀ (S4 : mj_S) (B4 : Nat → Int), mj_fr S S4 [53] → S4.1 53 = .inl (0, 15, .inl (mj_z B4)) → (∀ q, q < 15 → B4 q = if q < p + 1 ∧ s = 1 then ndf B ch q else Bs q) → mj_Ok Γ d M_Mo_take 0 0 14 [.ref 40, .int (iZ s), .int (iZ k), .int (iZ ((j : Int) + 1)), .int (iZ (ndf B ch p)), .int (iZ p)] [] S4 (mj_V fun S' => mj_fr S S' [53] ∧ ∃ Bs', S'.1 53 = .inl (0, 15, .inl (mj_z Bs')) ∧ ∀ p, p < 15 → Bs' p = tkF (pr n 0) (ndf B ch) Bs p) := by
              intro S4 B4 f4 e4 b4
              have w := ihr (j + 1) S4 B4 (.int (iZ (ndf B ch p))) (.int (iZ p)) rfl rfl (by omega) f4 e4 (by rw [ep, ← hs]; exact b4)
              rw [ep, ← hs, show ((j + 1 : Nat) : Int) = (j : Int) + 1 by omega] at w
              exact w
            refine mz_ist1 d_Mo_take_90 (rfl) ?_
            refine mj_iload_n d_Mo_take_91 rfl ?_
            refine mz_if_le 104 d_Mo_take_92 (by decide) (by omega) (fun c_92 => ?_) (fun c_92 => ?_)
            · refine mz_inc3 d_Mo_take_104 (rfl) ?_
              refine mj_goto 14 d_Mo_take_107 (by decide) ?_
              refine next S3 B3 f3 e3 (fun q hq => ?_)
              rw [if_neg (by omega), b3 q hq]
              by_cases z : q < p ∧ lx (ndf B ch) Bs p = 1
              · exfalso
                rw [lx, if_neg (by omega)] at hs
                omega
              · rw [if_neg z]
            · have s1 : s = 1 := by omega
              refine mj_aload_n d_Mo_take_95 rfl ?_
              refine mj_get (ci := 9) (j := 22) d_Mo_take_96 rfl w_Mo_52 (by decide) (by omega) (by assumption) rfl ?_
              refine mj_iload d_Mo_take_99 rfl ?_
              refine mj_iload d_Mo_take_101 rfl ?_
              refine mz_iast (j := p) d_Mo_take_103 (by omega) (by assumption) (by omega) (by omega) (fun S_103 w_103 e_103 f_103 => ?_)
              refine mz_inc3 d_Mo_take_104 (rfl) ?_
              refine mj_goto 14 d_Mo_take_107 (by decide) ?_
              refine next S_103 _ (f3.tr f_103 (by simp) (by simp)) e_103 (fun q hq => ?_)
              by_cases e : q = p
              · subst e; rw [va_up_self, if_pos ⟨by omega, s1⟩]
              · rw [va_up_ne _ _ e, b3 q hq]
                by_cases z : q < p
                · rcases lr with l0 | l1 | l2
                  · rw [if_neg (show ¬ (q < p ∧ lx (ndf B ch) Bs p = 1) by omega), if_pos ⟨by omega, s1⟩]; exact (eqs l0 q z).symm
                  · rw [if_pos ⟨z, l1⟩, if_pos ⟨by omega, s1⟩]
                  · exfalso
                    rw [lx, if_neg (by omega)] at hs
                    omega
                · rw [if_neg (by omega), if_neg (by omega)]
          refine mj_iload_n d_Mo_take_14 rfl ?_
          refine mj_iload_n d_Mo_take_15 rfl ?_
          refine mz_icmp_ge 110 d_Mo_take_16 (by decide) (by omega) (by omega) (fun c_16 => ?_) (fun c_16 => ?_)
          · omega
          · refine mj_aload_n d_Mo_take_19 rfl ?_
            refine mj_get (ci := 9) (j := 21) d_Mo_take_20 rfl w_Mo_49 (by decide) (by omega) (by assumption) rfl ?_
            refine mz_bipush d_Mo_take_23 (by decide) ?_
            refine mj_aload_n d_Mo_take_25 rfl ?_
            refine mj_get (ci := 9) (j := 17) d_Mo_take_26 rfl w_Mo_39 (by decide) (by omega) (by assumption) rfl ?_
            refine mj_iload_n d_Mo_take_29 rfl ?_
            refine mz_iald (j := k) d_Mo_take_30 (by omega) (by assumption) (by omega) (by omega) ?_
            rw [nk.1]
            refine mz_imul d_Mo_take_31 ?_
            refine mj_aload_n d_Mo_take_32 rfl ?_
            refine mj_get (ci := 9) (j := 17) d_Mo_take_33 rfl w_Mo_39 (by decide) (by omega) (by assumption) rfl ?_
            refine mj_iload_n d_Mo_take_36 rfl ?_
            refine mz_iald (j := j) d_Mo_take_37 (by omega) (by assumption) (by omega) (by omega) ?_
            rw [nj.1]
            refine mz_iadd d_Mo_take_38 ?_
            refine mz_iald (j := ch k * 6 + ch j) d_Mo_take_39 (by omega) (by assumption) (by omega) (by omega) ?_
            rw [hnd]
            refine mz_ist4 d_Mo_take_40 (by unfold mj_c1; simp only [List.all_cons, g4, g5]; rfl) ?_
            refine mj_iload_n d_Mo_take_42 rfl ?_
            refine mj_iload_n d_Mo_take_43 rfl ?_
            refine mz_callS2i d_Mo_take_44 (m_Mo_pair (d := 0) (by omega) (by omega)) cw_Mo_pair lk_Mo_164 (by omega) rfl (fun z_44 S_44 h_44 => ?_)
            obtain ⟨e44, hz⟩ := h_44
            rw [if_pos (by omega), ← hp] at hz
            subst hz
            rw [e44]
            refine mz_ist5 d_Mo_take_47 (by unfold mj_c1; simp only [List.all_cons, g5]; rfl) ?_
            refine mj_iload_n d_Mo_take_49 rfl ?_
            refine mz_if_ne 89 d_Mo_take_50 (by decide) (by omega) (fun c_50 => ?_) (fun c_50 => ?_)
            · refine mj_iload_n d_Mo_take_89 rfl ?_
              exact fin _ (by rw [lx, if_neg c_50])
            · refine mj_iload d_Mo_take_53 rfl ?_
              refine mj_aload_n d_Mo_take_55 rfl ?_
              refine mj_get (ci := 9) (j := 22) d_Mo_take_56 rfl w_Mo_52 (by decide) (by omega) (by assumption) rfl ?_
              refine mj_iload d_Mo_take_59 rfl ?_
              refine mz_iald (j := p) d_Mo_take_61 (by omega) (by assumption) (by omega) (by omega) ?_
              rw [hB3p]
              rw [hnd] at hBv
              refine mz_icmp_le 69 d_Mo_take_62 (by decide) (by omega) (by omega) (fun c_62 => ?_) (fun c_62 => ?_)
              · refine mj_iload d_Mo_take_69 rfl ?_
                refine mj_aload_n d_Mo_take_71 rfl ?_
                refine mj_get (ci := 9) (j := 22) d_Mo_take_72 rfl w_Mo_52 (by decide) (by omega) (by assumption) rfl ?_
                refine mj_iload d_Mo_take_75 rfl ?_
                refine mz_iald (j := p) d_Mo_take_77 (by omega) (by assumption) (by omega) (by omega) ?_
                rw [hB3p]
                refine mz_icmp_ge 85 d_Mo_take_78 (by decide) (by omega) (by omega) (fun c_78 => ?_) (fun c_78 => ?_)
                · refine mz_iconst d_Mo_take_85 ?_
                  refine mj_goto 90 d_Mo_take_86 (by decide) ?_
                  exact fin _ (by rw [lx, if_pos c_50, if_neg (by omega), if_neg (by omega)])
                · refine mz_iconst d_Mo_take_81 ?_
                  refine mj_goto 90 d_Mo_take_82 (by decide) ?_
                  exact fin _ (by rw [lx, if_pos c_50, if_neg (by omega), if_pos (by omega)])
              · refine mz_iconst d_Mo_take_65 ?_
                refine mj_goto 90 d_Mo_take_66 (by decide) ?_
                exact fin _ (by rw [lx, if_pos c_50, if_pos (by omega)])
      have h12 := f2.at h1 (by simp)
      have hw2 := f2.w.trans hw
      refine mj_iload_n d_Mo_take_4 rfl ?_
      refine mj_aload_n d_Mo_take_5 rfl ?_
      refine mj_get (ci := 9) (j := 4) d_Mo_take_6 rfl w_Mo_129 (by decide) (by omega) (by assumption) rfl ?_
      refine mz_icmp_ge 116 d_Mo_take_9 (by decide) (by omega) (by omega) (fun c_9 => ?_) (fun c_9 => ?_)
      · omega
      · refine mz_iconst d_Mo_take_12 ?_
        refine mz_ist3 d_Mo_take_13 (by unfold mj_c1; simp only [List.all_cons, g3, g4, g5]; rfl) ?_
        exact inner k 0 S2 B2 x4 x5 g4 g5 (by omega) f2 e2 b2
  exact outer (n - 1) 1 S Bs _ _ _ rfl rfl rfl (by omega) (by omega) (mj_fr.rf _ _) h50 (fun p hp => by rw [if_neg (fun z => absurd z.1 (Nat.not_lt_zero _))])
end GR1
