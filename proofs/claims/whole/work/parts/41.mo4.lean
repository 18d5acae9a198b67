/-! the reference: numberings tried one after the other -/
def nbR (f : Nat → Nat → Option Nat) : Nat → Nat → Nat → Option Nat
  | 0, _, w => some w
  | r + 1, a, w => match f a w with
    | none => none
    | some w' => nbR f r (a + 1) w'
/-- how many numberings of m atoms give the same rows; none: one gives a greater row -/
def nbI (m : Nat) (KM B : Nat → Nat) : Nat → Nat → (Nat → Nat) → (Nat → Bool) → Nat → Option Nat
  | 0, _, _, _, w => some (w + 1)
  | r + 1, k, ch, tk, w => nbR (fun a w => if tk a = false ∧ KM a = KM k then (if mj_rw B (fun j => j) k k < mj_rw B ch a k then none else if mj_rw B ch a k = mj_rw B (fun j => j) k k then nbI m KM B r (k + 1) (va_up ch k a) (va_up tk a true) w else some w) else some w) m 0 w
theorem nbR_le {f : Nat → Nat → Option Nat} {M : Nat} (hf : ∀ a w w', f a w = some w' → w' ≤ w + M) : ∀ r a w w', nbR f r a w = some w' → w' ≤ w + r * M := by
  intro r
  induction r with
  | zero => intro a w w' h; have h : some w = some w' := h; injection h with h; omega
  | succ r ih =>
    intro a w w' h
    unfold nbR at h
    split at h
    · exact absurd h (by simp)
    · rename_i w1 hw1
      have h1 := hf a w w1 hw1
      have h2 := ih (a + 1) w1 w' h
      rw [Nat.succ_mul]
      omega
theorem nbI_le {m : Nat} {KM B : Nat → Nat} : ∀ r k ch tk w w', nbI m KM B r k ch tk w = some w' → w' ≤ w + (m + 1) ^ r := by
  intro r
  induction r with
  | zero => intro k ch tk w w' h; have h : some (w + 1) = some w' := h; injection h with h; simp; omega
  | succ r ih =>
    intro k ch tk w w' h
    unfold nbI at h
    have h1 := nbR_le (M := (m + 1) ^ r) (fun a w w' hf => by
      split at hf
      · split at hf
        · exact absurd hf (by simp)
        · split at hf
          · exact ih _ _ _ _ _ hf
          · injection hf with hf; omega
      · injection hf with hf; omega) m 0 w w' h
    have h2 : m * (m + 1) ^ r ≤ (m + 1) ^ (r + 1) := by
      rw [Nat.pow_succ, Nat.mul_comm]
      exact Nat.mul_le_mul_left _ (by omega)
    omega
abbrev c1 (x : Value) : Prop := (x.category == 1) = true
/-- what a state is while numberings are tried: the first k numbers are given -/
def nbX (S0 S : mj_S) (k : Nat) (ch : Nat → Nat) (tk : Nat → Bool) : Prop := mj_fr S0 S [49, 50] ∧ (∃ Nb, S.1 49 = .inl (0, 7, .inl (mj_z Nb)) ∧ ∀ j, j < k → Nb j = ch j) ∧ ∃ T, S.1 50 = .inl (2, 6, .inl (mj_z T)) ∧ ∀ j, j < 6 → T j = if tk j then 1 else 0
section MO4
variable {Γ : mj_G} {d : Nat} {S : mj_S} {rf sz wr am hy sr tr rs fo sg : Int}
theorem m_Mo_numberings {Nb0 T0 Kd Cd : Nat → Int} {KM cd B : Nat → Nat} {m : Nat} (hw : S.2.1 = 65) (h : mo_st S rf sz wr am hy sr tr rs fo sg) (h46 : S.1 49 = .inl (0, 7, .inl (mj_z Nb0))) (h47 : S.1 50 = .inl (2, 6, .inl (mj_z T0))) (h41 : S.1 44 = .inl (0, 6, .inl (mj_z Kd))) (h42 : S.1 45 = .inl (0, 15, .inl (mj_z Cd))) (hm : m ≤ 6) (hm1 : 1 ≤ m)
    (hK : ∀ j, j < m → Kd j = KM j ∧ KM j < 1000) (hC : ∀ j, j < 15 → Cd j = cd j) (hcB : ∀ a b, a < 6 → b < a → B (a * 6 + b) = cd (pr a b) ∧ B (b * 6 + a) = cd (pr a b)) (hB : ∀ j, j < 36 → B j < 4) (hd : 2 ≤ d) :
    mj_Met Γ d y_Mo_numberings M_Mo_numberings [.ref 40, .int (iZ m)] S 0 0 (mj_I fun z S' => mj_fr S S' [49, 50] ∧ (∃ Nb, S'.1 49 = .inl (0, 7, .inl (mj_z Nb))) ∧ (∃ T, S'.1 50 = .inl (2, 6, .inl (mj_z T))) ∧ ((nbI m KM B m 0 (fun _ => 0) (fun _ => false) 0 = none ∧ z = -1) ∨ ∃ w : Nat, nbI m KM B m 0 (fun _ => 0) (fun _ => false) 0 = some w ∧ z = w)) := by
  obtain ⟨Q, hQ⟩ : ∃ Q : Int → mj_S → Prop, Q = (fun (z : Int) (S' : mj_S) => mj_fr S S' [49, 50] ∧ (∃ Nb, S'.1 49 = .inl (0, 7, .inl (mj_z Nb))) ∧ (∃ T, S'.1 50 = .inl (2, 6, .inl (mj_z T))) ∧ ((nbI m KM B m 0 (fun _ => 0) (fun _ => false) 0 = none ∧ z = -1) ∨ ∃ w : Nat, nbI m KM B m 0 (fun _ => 0) (fun _ => false) 0 = some w ∧ z = w)) := ⟨_, rfl⟩
  rw [← hQ]
  have h1 : S.1 40 = _ := h
  -- a level: k numbers are given, r are still to be given
  have entry : ∀ (r k : Nat) (ch : Nat → Nat) (tk : Nat → Bool) (w : Nat) (S1 : mj_S) (x4 x5 : Value), c1 x4 → c1 x5 → k + r = m → (∀ j, j < k → ch j < m ∧ tk (ch j) = true) → nbX S S1 k ch tk → (∃ Nb, S1.1 49 = .inl (0, 7, .inl (mj_z Nb)) ∧ Nb k = -1) →
      (∀ w' S2 y4 y5, c1 y4 → c1 y5 → nbI m KM B r k ch tk w = some w' → nbX S S2 k ch tk → mj_Ok Γ d M_Mo_numberings 0 0 35 [.ref 40, .int (iZ m), .int (iZ w'), .int (iZ ((k : Int) - 1)), y4, y5] [] S2 (mj_I Q)) →
      (nbI m KM B r k ch tk w = none → ∀ S2 k2 ch2 tk2, nbX S S2 k2 ch2 tk2 → Q (-1) S2) →
      mj_Ok Γ d M_Mo_numberings 0 0 35 [.ref 40, .int (iZ m), .int (iZ w), .int (iZ k), x4, x5] [] S1 (mj_I Q) := by
    intro r
    induction r with
    | zero =>
      intro k ch tk w S1 x4 x5 g4 g5 hk hch hx hnb hc hn
      refine mj_iload_n d_Mo_numberings_35 rfl ?_
      refine mz_if_lt 182 d_Mo_numberings_36 (by decide) (by omega) (fun c_36 => ?_) (fun c_36 => ?_)
      · omega
      · refine mj_iload_n d_Mo_numberings_39 rfl ?_
        refine mj_iload_n d_Mo_numberings_40 rfl ?_
        refine mz_icmp_ne 53 d_Mo_numberings_41 (by decide) (by omega) (by omega) (fun c_41 => ?_) (fun c_41 => ?_)
        · omega
        · refine mz_inc2 d_Mo_numberings_44 (by unfold mj_c1; simp only [List.all_cons, g4, g5]; rfl) ?_
          refine mz_inc3 d_Mo_numberings_47 (by unfold mj_c1; simp only [List.all_cons, g4, g5]; rfl) ?_
          refine mj_goto 35 d_Mo_numberings_50 (by decide) ?_
          exact hc (w + 1) S1 x4 x5 g4 g5 rfl hx
    | succ r ih =>
      intro k ch tk w S1 x4 x5 g4 g5 hk hch hx hnb hc hn
      unfold nbI at hc hn
      obtain ⟨f, hf⟩ : ∃ f : Nat → Nat → Option Nat, f = (fun a w => if tk a = false ∧ KM a = KM k then (if mj_rw B (fun j => j) k k < mj_rw B ch a k then none else if mj_rw B ch a k = mj_rw B (fun j => j) k k then nbI m KM B r (k + 1) (va_up ch k a) (va_up tk a true) w else some w) else some w) := ⟨_, rfl⟩
      rw [← hf] at hc hn
      have hKk := hK k (by omega)
      have c84 : ∀ (q a w1 : Nat) (S2 : mj_S) (x5 : Value), c1 x5 → a + q = m → nbX S S2 k ch tk → nbR f q a w1 = nbR f m 0 w → mj_Ok Γ d M_Mo_numberings 0 0 84 [.ref 40, .int (iZ m), .int (iZ w1), .int (iZ k), .int (iZ a), x5] [] S2 (mj_I Q) := by
        intro q
        induction q with
        | zero =>
          intro a w1 S2 x5 g5 ha hx2 he
          have : a = m := by omega
          subst this
          refine mj_iload d_Mo_numberings_84 rfl ?_
          refine mj_iload_n d_Mo_numberings_86 rfl ?_
          refine mz_icmp_ge 122 d_Mo_numberings_87 (by decide) (by omega) (by omega) (fun c_87 => ?_) (fun c_87 => ?_)
          · refine mj_iload d_Mo_numberings_122 rfl ?_
            refine mj_iload_n d_Mo_numberings_124 rfl ?_
            refine mz_icmp_ne 134 d_Mo_numberings_125 (by decide) (by omega) (by omega) (fun c_125 => ?_) (fun c_125 => ?_)
            · omega
            · refine mz_inc3 d_Mo_numberings_128 (by unfold mj_c1; simp only [List.all_cons, g5]; rfl) ?_
              refine mj_goto 179 d_Mo_numberings_131 (by decide) ?_
              refine mj_goto 35 d_Mo_numberings_179 (by decide) ?_
              exact hc w1 S2 _ _ rfl g5 he.symm hx2
          · omega
        | succ q ihq =>
          intro a w1 S2 x5 g5 ha hx2 he
          obtain ⟨f2, ⟨Nb, n1, n2⟩, T, t1, t2⟩ := id hx2
          have h1' := f2.at h1 (by simp)
          have h41' := f2.at h41 (by simp)
          have h42' := f2.at h42 (by simp)
          have hw2 := f2.w.trans hw
          have hKa := hK a (by omega)
          have ta := t2 a (by omega)
          have tr : iR (T a) := by rw [ta]; split <;> decide
          have skip : f a w1 = some w1 → ∀ y5, c1 y5 → mj_Ok Γ d M_Mo_numberings 0 0 84 [.ref 40, .int (iZ m), .int (iZ w1), .int (iZ k), .int (iZ ((a : Int) + 1)), y5] [] S2 (mj_I Q) := by
            intro hfa y5 q5
            have w2 := ihq (a + 1) w1 S2 y5 q5 (by omega) hx2 (by rw [← he, nbR, hfa])
            rw [show ((a + 1 : Nat) : Int) = (a : Int) + 1 by omega] at w2
            exact w2
          refine mj_iload d_Mo_numberings_84 rfl ?_
          refine mj_iload_n d_Mo_numberings_86 rfl ?_
          refine mz_icmp_ge 122 d_Mo_numberings_87 (by decide) (by omega) (by omega) (fun c_87 => ?_) (fun c_87 => ?_)
          · omega
          · refine mj_aload_n d_Mo_numberings_90 rfl ?_
            refine mj_get (ci := 9) (j := 18) d_Mo_numberings_91 rfl w_Mo_42 (by decide) (by omega) (by assumption) rfl ?_
            refine mj_iload d_Mo_numberings_94 rfl ?_
            refine mz_zald d_Mo_numberings_96 (by omega) (by assumption) (rfl) (by omega) ?_
            refine mz_if_ne 116 d_Mo_numberings_97 (by decide) (by omega) (fun c_97 => ?_) (fun c_97 => ?_)
            · -- taken
              have hta : tk a = true := by
                cases q : tk a
                · rw [q] at ta; exact absurd ta c_97
                · rfl
              refine mz_inc4 d_Mo_numberings_116 (by unfold mj_c1; simp only [List.all_cons, g5]; rfl) ?_
              refine mj_goto 84 d_Mo_numberings_119 (by decide) ?_
              exact skip (by rw [hf]; simp [hta]) _ g5
            · have hta : tk a = false := by
                cases q : tk a
                · rfl
                · rw [q] at ta; rw [ta] at c_97; exact absurd c_97 (by decide)
              refine mj_aload_n d_Mo_numberings_100 rfl ?_
              refine mj_get (ci := 9) (j := 10) d_Mo_numberings_101 rfl w_Mo_24 (by decide) (by omega) (by assumption) rfl ?_
              refine mj_iload d_Mo_numberings_104 rfl ?_
              refine mz_iald d_Mo_numberings_106 (by omega) (by assumption) (rfl) (by omega) ?_
              refine mj_aload_n d_Mo_numberings_107 rfl ?_
              refine mj_get (ci := 9) (j := 10) d_Mo_numberings_108 rfl w_Mo_24 (by decide) (by omega) (by assumption) rfl ?_
              refine mj_iload_n d_Mo_numberings_111 rfl ?_
              refine mz_iald d_Mo_numberings_112 (by omega) (by assumption) (rfl) (by omega) ?_
              rw [hKa.1, hKk.1]
              refine mz_icmp_eq 122 d_Mo_numberings_113 (by decide) (by omega) (by omega) (fun c_113 => ?_) (fun c_113 => ?_)
              · -- a candidate
                have hkk : KM a = KM k := by omega
                refine mj_iload d_Mo_numberings_122 rfl ?_
                refine mj_iload_n d_Mo_numberings_124 rfl ?_
                refine mz_icmp_ne 134 d_Mo_numberings_125 (by decide) (by omega) (by omega) (fun c_125 => ?_) (fun c_125 => ?_)
                · refine mj_aload_n d_Mo_numberings_134 rfl ?_
                  refine mj_get (ci := 9) (j := 17) d_Mo_numberings_135 rfl w_Mo_39 (by decide) (by omega) (by assumption) rfl ?_
                  refine mj_iload_n d_Mo_numberings_138 rfl ?_
                  refine mj_iload d_Mo_numberings_139 rfl ?_
                  refine mz_iast d_Mo_numberings_141 (by omega) (by assumption) (rfl) (by omega) (fun S_141 w_141 e_141 f_141 => ?_)
                  have t1 := f_141.at t1 (by simp)
                  have h1' := f_141.at h1' (by simp)
                  refine mj_aload_n d_Mo_numberings_142 rfl ?_
                  refine mj_get (ci := 9) (j := 18) d_Mo_numberings_143 rfl w_Mo_42 (by decide) (by omega) (by assumption) rfl ?_
                  refine mj_iload d_Mo_numberings_146 rfl ?_
                  refine mz_iconst d_Mo_numberings_148 ?_
                  refine mz_zast d_Mo_numberings_149 (by omega) (by assumption) (rfl) (by omega) (by decide) (fun S_149 w_149 e_149 f_149 => ?_)
                  have e_141 := f_149.at e_141 (by simp)
                  have h1' := f_149.at h1' (by simp)
                  have f3 : mj_fr S S_149 [49, 50] := (f2.tr f_141 (l := [49, 50]) (by simp) (by simp)).tr f_149 (by simp) (by simp)
                  have h42' := f3.at h42 (by simp)
                  have hne : ∀ j, j < k → va_up ch k a j ≠ va_up ch k a k := by
                    intro j hj e
                    rw [va_up_self, va_up_ne _ _ (by omega)] at e
                    have := (hch j hj).2
                    rw [e, hta] at this
                    exact absurd this (by decide)
                  have hN : ∀ j, j ≤ k → va_up Nb k (a : Int) j = (va_up ch k a j : Nat) ∧ va_up ch k a j < 6 := by
                    intro j hj
                    by_cases e : j = k
                    · subst e; rw [va_up_self, va_up_self]; exact ⟨rfl, by omega⟩
                    · rw [va_up_ne _ _ e, va_up_ne _ _ e]
                      exact ⟨n2 j (by omega), by have := (hch j (by omega)).1; omega⟩
                  have hx3 : nbX S S_149 (k + 1) (va_up ch k a) (va_up tk a true) := by
                    refine ⟨f3, ⟨_, e_141, fun j hj => (hN j (by omega)).1⟩, _, e_149, fun j hj => ?_⟩
                    by_cases e : j = a
                    · subst e; rw [va_up_self, va_up_self]; rfl
                    · rw [va_up_ne _ _ e, va_up_ne _ _ e]; exact t2 j hj
                  -- back at this level, a is tried: the next one
                  have back : ∀ (w2 : Nat) (S4 : mj_S) (y4 y5 : Value), c1 y4 → c1 y5 → f a w1 = some w2 → nbX S S4 (k + 1) (va_up ch k a) (va_up tk a true) → mj_Ok Γ d M_Mo_numberings 0 0 35 [.ref 40, .int (iZ m), .int (iZ w2), .int (iZ k), y4, y5] [] S4 (mj_I Q) := by
                    intro w2 S4 y4 y5 q4 q5 hfa hx4
                    obtain ⟨f4, ⟨Nb4, n14, n24⟩, T4, t14, t24⟩ := hx4
                    have h14 := f4.at h1 (by simp)
                    have hw4 := f4.w.trans hw
                    have hb4 : Nb4 k = (a : Int) := by rw [n24 k (by omega), va_up_self]
                    refine mj_iload_n d_Mo_numberings_35 rfl ?_
                    refine mz_if_lt 182 d_Mo_numberings_36 (by decide) (by omega) (fun c_36 => ?_) (fun c_36 => ?_)
                    · omega
                    · refine mj_iload_n d_Mo_numberings_39 rfl ?_
                      refine mj_iload_n d_Mo_numberings_40 rfl ?_
                      refine mz_icmp_ne 53 d_Mo_numberings_41 (by decide) (by omega) (by omega) (fun c_41 => ?_) (fun c_41 => ?_)
                      · refine mj_aload_n d_Mo_numberings_53 rfl ?_
                        refine mj_get (ci := 9) (j := 17) d_Mo_numberings_54 rfl w_Mo_39 (by decide) (by omega) (by assumption) rfl ?_
                        refine mj_iload_n d_Mo_numberings_57 rfl ?_
                        refine mz_iald d_Mo_numberings_58 (by omega) (by assumption) (rfl) (by omega) ?_
                        rw [hb4]
                        refine mz_if_lt 74 d_Mo_numberings_59 (by decide) (by omega) (fun c_59 => ?_) (fun c_59 => ?_)
                        · omega
                        · refine mj_aload_n d_Mo_numberings_62 rfl ?_
                          refine mj_get (ci := 9) (j := 18) d_Mo_numberings_63 rfl w_Mo_42 (by decide) (by omega) (by assumption) rfl ?_
                          refine mj_aload_n d_Mo_numberings_66 rfl ?_
                          refine mj_get (ci := 9) (j := 17) d_Mo_numberings_67 rfl w_Mo_39 (by decide) (by omega) (by assumption) rfl ?_
                          refine mj_iload_n d_Mo_numberings_70 rfl ?_
                          refine mz_iald d_Mo_numberings_71 (by omega) (by assumption) (rfl) (by omega) ?_
                          rw [hb4]
                          refine mz_iconst d_Mo_numberings_72 ?_
                          refine mz_zast d_Mo_numberings_73 (by omega) (by assumption) (rfl) (by omega) (by decide) (fun S_73 w_73 e_73 f_73 => ?_)
                          have n14' := f_73.at n14 (by simp)
                          have h14 := f_73.at h14 (by simp)
                          refine mj_aload_n d_Mo_numberings_74 rfl ?_
                          refine mj_get (ci := 9) (j := 17) d_Mo_numberings_75 rfl w_Mo_39 (by decide) (by omega) (by assumption) rfl ?_
                          refine mj_iload_n d_Mo_numberings_78 rfl ?_
                          refine mz_iald d_Mo_numberings_79 (by omega) (by assumption) (rfl) (by omega) ?_
                          rw [hb4]
                          refine mz_iconst d_Mo_numberings_80 ?_
                          refine mz_iadd d_Mo_numberings_81 ?_
                          refine mz_ist4 d_Mo_numberings_82 (by unfold mj_c1; simp only [List.all_cons, q4, q5]; rfl) ?_
                          have w3 := ihq (a + 1) w2 S_73 y5 q5 (by omega) ⟨f4.tr f_73 (by simp) (by simp), ⟨Nb4, n14', fun j hj => by rw [n24 j (by omega), va_up_ne _ _ (by omega)]⟩, _, e_73, fun j hj => by
                            by_cases e : j = a
                            · subst e; rw [va_up_self, hta]; rfl
                            · rw [va_up_ne _ _ e, t24 j hj, va_up_ne _ _ e]⟩ (by rw [← he, nbR, hfa])
                          rw [show ((a + 1 : Nat) : Int) = (a : Int) + 1 by omega] at w3
                          exact w3
                      · omega
                  have hfa : f a w1 = (if mj_rw B (fun j => j) k k < mj_rw B ch a k then none else if mj_rw B ch a k = mj_rw B (fun j => j) k k then nbI m KM B r (k + 1) (va_up ch k a) (va_up tk a true) w1 else some w1) := by rw [hf]; exact if_pos ⟨hta, hkk⟩
                  have hrw : mj_rw B (va_up ch k a) (va_up ch k a k) k = mj_rw B ch a k := by rw [va_up_self]; exact mj_rw_congr k (fun j hj => va_up_ne _ _ (by omega))
                  refine mj_aload_n d_Mo_numberings_150 rfl ?_
                  refine mj_iload_n d_Mo_numberings_151 rfl ?_
                  refine mz_callV1i (ci := 9) d_Mo_numberings_152 (m_Mo_row (d := 1) (ch := va_up ch k a) (f3.w.trans hw) (f3.at h1 (by simp)) e_141 h42' (by omega) hN hne hC hcB hB (by omega)) cw_Mo_row lk_Mo_161 rfl rfl (by omega) (by assumption) (by omega) rfl (fun z_152 S_152 h_152 => ?_)
                  have h_152 : S_152 = S_149 ∧ _ := h_152
                  obtain ⟨rfl, hz⟩ := h_152
                  rw [hrw] at hz
                  have hzr : iR z_152 := by rcases hz with ⟨e, _⟩ | ⟨e, _⟩ | ⟨e, _⟩ <;> rw [e] <;> decide
                  refine mz_ist5 d_Mo_numberings_155 (by unfold mj_c1; simp only [List.all_cons, g5]; rfl) ?_
                  refine mj_iload d_Mo_numberings_157 rfl ?_
                  refine mz_if_le 164 d_Mo_numberings_159 (by decide) (by omega) (fun c_159 => ?_) (fun c_159 => ?_)
                  · refine mj_iload d_Mo_numberings_164 rfl ?_
                    refine mz_if_ne 179 d_Mo_numberings_166 (by decide) (by omega) (fun c_166 => ?_) (fun c_166 => ?_)
                    · have hlt : mj_rw B ch a k < mj_rw B (fun j => j) k k := by
                        rcases hz with ⟨e, _⟩ | ⟨e, _⟩ | ⟨_, e⟩
                        · exact absurd e c_166
                        · omega
                        · exact e
                      refine mj_goto 35 d_Mo_numberings_179 (by decide) ?_
                      exact back w1 _ _ _ rfl rfl (by rw [hfa, if_neg (by omega), if_neg (by omega)]) hx3
                    · have heq : mj_rw B ch a k = mj_rw B (fun j => j) k k := by
                        rcases hz with ⟨_, e⟩ | ⟨e, _⟩ | ⟨e, _⟩
                        · exact e
                        · omega
                        · omega
                      have hfa2 : f a w1 = nbI m KM B r (k + 1) (va_up ch k a) (va_up tk a true) w1 := by rw [hfa, if_neg (by omega), if_pos heq]
                      refine mz_inc3 d_Mo_numberings_169 (rfl) ?_
                      refine mj_aload_n d_Mo_numberings_172 rfl ?_
                      refine mj_get (ci := 9) (j := 17) d_Mo_numberings_173 rfl w_Mo_39 (by decide) (by omega) (by assumption) rfl ?_
                      refine mj_iload_n d_Mo_numberings_176 rfl ?_
                      refine mz_iconst d_Mo_numberings_177 ?_
                      refine mz_iast (j := k + 1) d_Mo_numberings_178 (by omega) (by assumption) (by omega) (by omega) (fun S_178 w_178 e_178 f_178 => ?_)
                      have e_149' := f_178.at e_149 (by simp)
                      refine mj_goto 35 d_Mo_numberings_179 (by decide) ?_
                      obtain ⟨-, -, T5, t51, t52⟩ := hx3
                      have hx5 : nbX S S_178 (k + 1) (va_up ch k a) (va_up tk a true) := ⟨f3.tr f_178 (by simp) (by simp), ⟨_, e_178, fun j hj => by rw [va_up_ne _ _ (by omega)]; exact (hN j (by omega)).1⟩, T5, f_178.at t51 (by simp), t52⟩
                      have w5 := ih (k + 1) (va_up ch k a) (va_up tk a true) w1 S_178 (.int (iZ a)) (.int (iZ z_152)) rfl rfl (by omega) (fun j hj => by
                        by_cases e : j = k
                        · subst e; rw [va_up_self, va_up_self]; exact ⟨by omega, rfl⟩
                        · rw [va_up_ne _ _ e]
                          have q1 := hch j (by omega)
                          refine ⟨q1.1, ?_⟩
                          by_cases e2 : ch j = a
                          · rw [e2, va_up_self]
                          · rw [va_up_ne _ _ e2]; exact q1.2) hx5 ⟨_, e_178, va_up_self _ _ _⟩ (fun w' S6 y4 y5 q4 q5 h6 hx6 => by
                        have w7 := back w' S6 y4 y5 q4 q5 (by rw [hfa2, h6]) hx6
                        rw [show ((k + 1 : Nat) : Int) - 1 = (k : Int) by omega]
                        exact w7) (fun h6 S6 k6 ch6 tk6 hx6 => hn (by rw [← he, nbR, hfa2, h6]) S6 k6 ch6 tk6 hx6)
                      rw [show ((k + 1 : Nat) : Int) = (k : Int) + 1 by omega] at w5
                      exact w5
                  · have hgt : mj_rw B (fun j => j) k k < mj_rw B ch a k := by
                      rcases hz with ⟨e, _⟩ | ⟨_, e⟩ | ⟨e, _⟩
                      · omega
                      · exact e
                      · omega
                    refine mz_iconst d_Mo_numberings_162 ?_
                    refine mz_iret d_Mo_numberings_163 rfl (rfl) ?_
                    exact hn (by rw [← he, nbR, hfa, if_pos hgt]) _ _ _ _ hx3
                · omega
              · refine mz_inc4 d_Mo_numberings_116 (by unfold mj_c1; simp only [List.all_cons, g5]; rfl) ?_
                refine mj_goto 84 d_Mo_numberings_119 (by decide) ?_
                exact skip (by rw [hf]; exact if_neg (fun q => c_113 (by rw [q.2]))) _ g5
      obtain ⟨f2, -, -⟩ := id hx
      obtain ⟨Nb, n1, hnk⟩ := hnb
      have h1' := f2.at h1 (by simp)
      have hw2 := f2.w.trans hw
      refine mj_iload_n d_Mo_numberings_35 rfl ?_
      refine mz_if_lt 182 d_Mo_numberings_36 (by decide) (by omega) (fun c_36 => ?_) (fun c_36 => ?_)
      · omega
      · refine mj_iload_n d_Mo_numberings_39 rfl ?_
        refine mj_iload_n d_Mo_numberings_40 rfl ?_
        refine mz_icmp_ne 53 d_Mo_numberings_41 (by decide) (by omega) (by omega) (fun c_41 => ?_) (fun c_41 => ?_)
        · refine mj_aload_n d_Mo_numberings_53 rfl ?_
          refine mj_get (ci := 9) (j := 17) d_Mo_numberings_54 rfl w_Mo_39 (by decide) (by omega) (by assumption) rfl ?_
          refine mj_iload_n d_Mo_numberings_57 rfl ?_
          refine mz_iald d_Mo_numberings_58 (by omega) (by assumption) (rfl) (by omega) ?_
          rw [hnk]
          refine mz_if_lt 74 d_Mo_numberings_59 (by decide) (by omega) (fun c_59 => ?_) (fun c_59 => ?_)
          · refine mj_aload_n d_Mo_numberings_74 rfl ?_
            refine mj_get (ci := 9) (j := 17) d_Mo_numberings_75 rfl w_Mo_39 (by decide) (by omega) (by assumption) rfl ?_
            refine mj_iload_n d_Mo_numberings_78 rfl ?_
            refine mz_iald d_Mo_numberings_79 (by omega) (by assumption) (rfl) (by omega) ?_
            rw [hnk]
            refine mz_iconst d_Mo_numberings_80 ?_
            refine mz_iadd d_Mo_numberings_81 ?_
            refine mz_ist4 d_Mo_numberings_82 (by unfold mj_c1; simp only [List.all_cons, g4, g5]; rfl) ?_
            exact c84 m 0 w S1 x5 g5 (by omega) hx rfl
          · omega
        · omega
  refine mj_Met.of (by decide) ⟨rfl, rfl⟩ rfl rfl rfl ?_
  refine mz_iconst d_Mo_numberings_0 ?_
  refine mz_ist2 d_Mo_numberings_1 (rfl) ?_
  refine mz_iconst d_Mo_numberings_2 ?_
  refine mz_ist3 d_Mo_numberings_3 (rfl) ?_
  refine mj_aload_n d_Mo_numberings_4 rfl ?_
  refine mj_get (ci := 9) (j := 17) d_Mo_numberings_5 rfl w_Mo_39 (by decide) (by omega) (by assumption) rfl ?_
  refine mz_iconst d_Mo_numberings_8 ?_
  refine mz_iconst d_Mo_numberings_9 ?_
  refine mz_iast (j := 0) d_Mo_numberings_10 (by omega) (by assumption) (by omega) (by omega) (fun S_10 w_10 e_10 f_10 => ?_)
  have h1' := f_10.at h1 (by simp)
  have h47' := f_10.at h47 (by simp)
  refine mz_iconst d_Mo_numberings_11 ?_
  refine mz_ist4 d_Mo_numberings_12 (rfl) ?_
  have fill : ∀ (q j : Nat) (S2 : mj_S) (T : Nat → Int), j + q = 6 → mj_fr S S2 [49, 50] → S2.1 49 = .inl (0, 7, .inl (mj_z (va_up Nb0 0 (-1)))) → S2.1 50 = .inl (2, 6, .inl (mj_z T)) → (∀ i, i < j → T i = 0) → mj_Ok Γ d M_Mo_numberings 0 0 14 [.ref 40, .int (iZ m), .int (iZ 0), .int (iZ 0), .int (iZ j), (.retAddr 0)] [] S2 (mj_I Q) := by
    intro q
    induction q with
    | zero =>
      intro j S2 T hj f2 n2 t2 hT
      have : j = 6 := by omega
      subst this
      refine mj_iload d_Mo_numberings_14 rfl ?_
      refine mz_bipush d_Mo_numberings_16 (by decide) ?_
      refine mz_icmp_ge 35 d_Mo_numberings_18 (by decide) (by omega) (by omega) (fun c_18 => ?_) (fun c_18 => ?_)
      · refine entry m 0 (fun _ => 0) (fun _ => false) 0 S2 _ _ rfl rfl (by omega) (fun j hj => absurd hj (Nat.not_lt_zero j)) ⟨f2, ⟨_, n2, fun j hj => absurd hj (Nat.not_lt_zero j)⟩, T, t2, fun j hj => hT j hj⟩ ⟨_, n2, va_up_self _ _ _⟩ (fun w' S3 y4 y5 q4 q5 h3 hx3 => ?_) (fun h3 S3 k3 ch3 tk3 hx3 => ?_)
        · refine mj_iload_n d_Mo_numberings_35 rfl ?_
          refine mz_if_lt 182 d_Mo_numberings_36 (by decide) (by omega) (fun c_36 => ?_) (fun c_36 => ?_)
          · refine mj_iload_n d_Mo_numberings_182 rfl ?_
            refine mz_iret d_Mo_numberings_183 rfl (rfl) ?_
            rw [hQ]
            exact ⟨hx3.1, ⟨_, hx3.2.1.choose_spec.1⟩, ⟨_, hx3.2.2.choose_spec.1⟩, Or.inr ⟨w', h3, rfl⟩⟩
          · omega
        · rw [hQ]
          exact ⟨hx3.1, ⟨_, hx3.2.1.choose_spec.1⟩, ⟨_, hx3.2.2.choose_spec.1⟩, Or.inl ⟨h3, rfl⟩⟩
      · omega
    | succ q ih =>
      intro j S2 T hj f2 n2 t2 hT
      have h12 := f2.at h1 (by simp)
      have hw2 := f2.w.trans hw
      refine mj_iload d_Mo_numberings_14 rfl ?_
      refine mz_bipush d_Mo_numberings_16 (by decide) ?_
      refine mz_icmp_ge 35 d_Mo_numberings_18 (by decide) (by omega) (by omega) (fun c_18 => ?_) (fun c_18 => ?_)
      · omega
      · refine mj_aload_n d_Mo_numberings_21 rfl ?_
        refine mj_get (ci := 9) (j := 18) d_Mo_numberings_22 rfl w_Mo_42 (by decide) (by omega) (by assumption) rfl ?_
        refine mj_iload d_Mo_numberings_25 rfl ?_
        refine mz_iconst d_Mo_numberings_27 ?_
        refine mz_zast d_Mo_numberings_28 (by omega) (by assumption) (rfl) (by omega) (by decide) (fun S_28 w_28 e_28 f_28 => ?_)
        refine mz_inc4 d_Mo_numberings_29 (rfl) ?_
        refine mj_goto 14 d_Mo_numberings_32 (by decide) ?_
        have w := ih (j + 1) S_28 _ (by omega) (f2.tr f_28 (by simp) (by simp)) (f_28.at n2 (by simp)) e_28 (fun i hi => by
          by_cases e : i = j
          · subst e; rw [va_up_self]
          · rw [va_up_ne _ _ e]; exact hT i (by omega))
        rw [show ((j + 1 : Nat) : Int) = (j : Int) + 1 by omega] at w
        exact w
  exact fill 6 0 S_10 T0 (by omega) (f_10.tr (mj_fr.rf _ []) (by simp) (by simp)) e_10 h47' (fun i hi => absurd hi (Nat.not_lt_zero i))
end MO4
