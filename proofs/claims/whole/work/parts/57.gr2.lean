/-! the reference: greatest -/
def gbX (S0 S : mj_S) (k : Nat) (ch : Nat → Nat) (tk : Nat → Bool) (bs : Nat → Int) : Prop := mj_fr S0 S [49, 50, 53] ∧ (∃ Nb, S.1 49 = .inl (0, 7, .inl (mj_z Nb)) ∧ ∀ j, j < k → Nb j = ch j) ∧ (∃ T, S.1 50 = .inl (2, 6, .inl (mj_z T)) ∧ ∀ j, j < 6 → T j = if tk j then 1 else 0) ∧ ∃ Bz, S.1 53 = .inl (0, 15, .inl (mj_z Bz)) ∧ ∀ p, p < 15 → Bz p = bs p ∧ -1 ≤ bs p ∧ bs p ≤ 3
theorem tkF_congr {P : Nat} {nd bs bs' : Nat → Int} (hP : P ≤ 15) (h : ∀ p, p < 15 → bs p = bs' p) : ∀ p, p < 15 → tkF P nd bs p = tkF P nd bs' p := by
  intro p hp
  unfold tkF
  rw [lx_congr P (fun q hq => ⟨rfl, h q (by omega)⟩), h p hp]
theorem pr_n0 : ∀ n, n ≤ 6 → pr n 0 ≤ 15 ∧ (∀ p, p < pr n 0 → up6 p < n ∧ lo6 p < n) := by decide
section GR2
variable {Γ : mj_G} {d n : Nat} {S : mj_S} {rf sz wr hy sr tr rs fo sg : Int} {B : Nat → Int} {KM2 KW : Nat → Nat}
theorem m_Mo_greatest {Nb0 T0 Bs0 Sg El : Nat → Int} (hw : S.2.1 = 65) (h : mo_st S rf sz wr n hy sr tr rs fo sg) (h46 : S.1 49 = .inl (0, 7, .inl (mj_z Nb0))) (h47 : S.1 50 = .inl (2, 6, .inl (mj_z T0))) (h48 : S.1 51 = .inl (0, 6, .inl (mj_z Sg))) (h39 : S.1 42 = .inl (0, 6, .inl (mj_z El))) (h49 : S.1 52 = .inl (0, 36, .inl (mj_z B))) (h50 : S.1 53 = .inl (0, 15, .inl (mj_z Bs0))) (hn : n ≤ 6) (hn1 : 1 ≤ n) (hK2 : ∀ j, j < n → Sg j = KM2 j ∧ KM2 j < 9) (hKW : ∀ j, j < n → El j = KW j ∧ KW j < 9) (hB : ∀ j, j < 36 → 0 ≤ B j ∧ B j ≤ 3) (hBs : ∀ j, j < 15 → Bs0 j = -1) (hd : 2 ≤ d) :
    mj_Met Γ d y_Mo_greatest M_Mo_greatest [.ref 40] S 0 0 (mj_I fun z S' => z = (if (gmI n KM2 KW B n 0 (fun _ => 0) (fun _ => false) (false, fun _ => -1)).1 then 1 else 0) ∧ gbX S S' 0 (fun _ => 0) (fun _ => false) (gmI n KM2 KW B n 0 (fun _ => 0) (fun _ => false) (false, fun _ => -1)).2) := by
  obtain ⟨Q, hQ⟩ : ∃ Q : Int → mj_S → Prop, Q = (fun (z : Int) (S' : mj_S) => z = (if (gmI n KM2 KW B n 0 (fun _ => 0) (fun _ => false) (false, fun _ => -1)).1 then 1 else 0) ∧ gbX S S' 0 (fun _ => 0) (fun _ => false) (gmI n KM2 KW B n 0 (fun _ => 0) (fun _ => false) (false, fun _ => -1)).2) := ⟨_, rfl⟩
  rw [← hQ]
  have h1 : S.1 40 = _ := h
  obtain ⟨P15, Plt⟩ := pr_n0 n hn
  have entry : ∀ (r k : Nat) (ch : Nat → Nat) (tk : Nat → Bool) (st : Bool × (Nat → Int)) (S1 : mj_S) (x3 : Value), c1 x3 → k + r = n → (∀ j, j < k → ch j < n ∧ tk (ch j) = true) → gbX S S1 k ch tk st.2 → (∃ Nb, S1.1 49 = .inl (0, 7, .inl (mj_z Nb)) ∧ Nb k = -1) →
      (∀ S2 y3, c1 y3 → gbX S S2 k ch tk (gmI n KM2 KW B r k ch tk st).2 → mj_Ok Γ d M_Mo_greatest 0 0 32 [.ref 40, .int (iZ (if (gmI n KM2 KW B r k ch tk st).1 then 1 else 0)), .int (iZ ((k : Int) - 1)), y3] [] S2 (mj_I Q)) →
      mj_Ok Γ d M_Mo_greatest 0 0 32 [.ref 40, .int (iZ (if st.1 then 1 else 0)), .int (iZ k), x3] [] S1 (mj_I Q) := by
    intro r
    induction r with
    | zero =>
      intro k ch tk st S1 x3 g3 hk hch hx hnb hc
      have : k = n := by omega
      subst this
      obtain ⟨f1, ⟨Nb, n1, n2⟩, ⟨T, t1, t2⟩, Bz, b1, b2⟩ := hx
      have h11 := f1.at h1 (by simp)
      have hw1 := f1.w.trans hw
      refine mj_iload_n d_Mo_greatest_32 rfl ?_
      refine mz_if_lt 165 d_Mo_greatest_33 (by decide) (by omega) (fun c_33 => ?_) (fun c_33 => ?_)
      · omega
      · refine mj_iload_n d_Mo_greatest_36 rfl ?_
        refine mj_aload_n d_Mo_greatest_37 rfl ?_
        refine mj_get (ci := 9) (j := 4) d_Mo_greatest_38 rfl w_Mo_129 (by decide) (by omega) (by assumption) rfl ?_
        refine mz_icmp_ne 56 d_Mo_greatest_41 (by decide) (by omega) (by omega) (fun c_41 => ?_) (fun c_41 => ?_)
        · omega
        · refine mz_iconst d_Mo_greatest_44 ?_
          refine mz_ist1 d_Mo_greatest_45 (by unfold mj_c1; simp only [List.all_cons, g3]; rfl) ?_
          refine mj_aload_n d_Mo_greatest_46 rfl ?_
          refine mz_callV0v (ci := 9) d_Mo_greatest_47 (m_Mo_take (d := 1) (ch := ch) hw1 h11 n1 (f1.at h49 (by simp)) b1 hn hn1 (fun j hj => ⟨n2 j hj, by have := (hch j hj).1; omega⟩) hB (fun j hj => by have := b2 j hj; omega) (by omega)) cw_Mo_take lk_Mo_187 rfl rfl (by omega) (by assumption) (by omega) rfl (fun S_47 h_47 => ?_)
          obtain ⟨q1, Bs', q2, q3⟩ := h_47
          refine mz_inc2 d_Mo_greatest_50 (by unfold mj_c1; simp only [List.all_cons, g3]; rfl) ?_
          refine mj_goto 32 d_Mo_greatest_53 (by decide) ?_
          refine hc S_47 x3 g3 ⟨f1.tr q1 (by simp) (by simp), ⟨Nb, q1.at n1 (by simp), n2⟩, ⟨T, q1.at t1 (by simp), t2⟩, Bs', q2, fun p hp => ?_⟩
          have e := tkF_congr (nd := ndf B ch) P15 (fun p hp => (b2 p hp).1) p hp
          refine ⟨(q3 p hp).trans e, ?_⟩
          show -1 ≤ tkF (pr k 0) (ndf B ch) st.2 p ∧ tkF (pr k 0) (ndf B ch) st.2 p ≤ 3
          unfold tkF
          split
          · rename_i z
            have u := Plt p z.1
            have c1' := (hch _ u.1).1
            have c2' := (hch _ u.2).1
            have := hB (ch (up6 p) * 6 + ch (lo6 p)) (by omega)
            unfold ndf
            omega
          · exact (b2 p hp).2
    | succ r ih =>
      intro k ch tk st S1 x3 g3 hk hch hx hnb hc
      rw [gmI] at hc
      obtain ⟨f, hf⟩ : ∃ f : Nat → Bool × (Nat → Int) → Bool × (Nat → Int), f = (fun a st => if tk a = false ∧ KM2 a = KW k then gmI n KM2 KW B r (k + 1) (va_up ch k a) (va_up tk a true) st else st) := ⟨_, rfl⟩
      rw [← hf] at hc
      have hKk := hKW k (by omega)
      have c86 : ∀ (q a : Nat) (st1 : Bool × (Nat → Int)) (S2 : mj_S), a + q = n → gbX S S2 k ch tk st1.2 → chR f q a st1 = chR f n 0 st → mj_Ok Γ d M_Mo_greatest 0 0 86 [.ref 40, .int (iZ (if st1.1 then 1 else 0)), .int (iZ k), .int (iZ a)] [] S2 (mj_I Q) := by
        intro q
        induction q with
        | zero =>
          intro a st1 S2 ha hx2 he
          have : a = n := by omega
          subst this
          have he : st1 = chR f a 0 st := he
          have h12 := hx2.1.at h1 (by simp)
          have hw2 := hx2.1.w.trans hw
          refine mj_iload_n d_Mo_greatest_86 rfl ?_
          refine mj_aload_n d_Mo_greatest_87 rfl ?_
          refine mj_get (ci := 9) (j := 4) d_Mo_greatest_88 rfl w_Mo_129 (by decide) (by omega) (by assumption) rfl ?_
          refine mz_icmp_ge 124 d_Mo_greatest_91 (by decide) (by omega) (by omega) (fun c_91 => ?_) (fun c_91 => ?_)
          · refine mj_iload_n d_Mo_greatest_124 rfl ?_
            refine mj_aload_n d_Mo_greatest_125 rfl ?_
            refine mj_get (ci := 9) (j := 4) d_Mo_greatest_126 rfl w_Mo_129 (by decide) (by omega) (by assumption) rfl ?_
            refine mz_icmp_ne 138 d_Mo_greatest_129 (by decide) (by omega) (by omega) (fun c_129 => ?_) (fun c_129 => ?_)
            · omega
            · refine mz_inc2 d_Mo_greatest_132 (rfl) ?_
              refine mj_goto 162 d_Mo_greatest_135 (by decide) ?_
              refine mj_goto 32 d_Mo_greatest_162 (by decide) ?_
              have w := hc S2 (.int (iZ a)) rfl (by rw [← he]; exact hx2)
              rw [← he] at w
              exact w
          · omega
        | succ q ihq =>
          intro a st1 S2 ha hx2 he
          obtain ⟨f2, ⟨Nb, n1, n2⟩, ⟨T, t1, t2⟩, Bz, b1, b2⟩ := id hx2
          have h1' := f2.at h1 (by simp)
          have h48' := f2.at h48 (by simp)
          have h39' := f2.at h39 (by simp)
          have hw2 := f2.w.trans hw
          have hKa := hK2 a (by omega)
          have ta := t2 a (by omega)
          have tr : iR (T a) := by rw [ta]; split <;> decide
          have skip : f a st1 = st1 → mj_Ok Γ d M_Mo_greatest 0 0 86 [.ref 40, .int (iZ (if st1.1 then 1 else 0)), .int (iZ k), .int (iZ ((a : Int) + 1))] [] S2 (mj_I Q) := by
            intro hfa
            have w2 := ihq (a + 1) st1 S2 (by omega) hx2 (by rw [← he, chR, hfa])
            rw [show ((a + 1 : Nat) : Int) = (a : Int) + 1 by omega] at w2
            exact w2
          refine mj_iload_n d_Mo_greatest_86 rfl ?_
          refine mj_aload_n d_Mo_greatest_87 rfl ?_
          refine mj_get (ci := 9) (j := 4) d_Mo_greatest_88 rfl w_Mo_129 (by decide) (by omega) (by assumption) rfl ?_
          refine mz_icmp_ge 124 d_Mo_greatest_91 (by decide) (by omega) (by omega) (fun c_91 => ?_) (fun c_91 => ?_)
          · omega
          · refine mj_aload_n d_Mo_greatest_94 rfl ?_
            refine mj_get (ci := 9) (j := 18) d_Mo_greatest_95 rfl w_Mo_42 (by decide) (by omega) (by assumption) rfl ?_
            refine mj_iload_n d_Mo_greatest_98 rfl ?_
            refine mz_zald d_Mo_greatest_99 (by omega) (by assumption) (rfl) (by omega) ?_
            refine mz_if_ne 118 d_Mo_greatest_100 (by decide) (by omega) (fun c_100 => ?_) (fun c_100 => ?_)
            · have hta : tk a = true := by
                cases q : tk a
                · rw [q] at ta; exact absurd ta c_100
                · rfl
              refine mz_inc3 d_Mo_greatest_118 (rfl) ?_
              refine mj_goto 86 d_Mo_greatest_121 (by decide) ?_
              exact skip (by rw [hf]; simp [hta])
            · have hta : tk a = false := by
                cases q : tk a
                · rfl
                · rw [q] at ta; rw [ta] at c_100; exact absurd c_100 (by decide)
              refine mj_aload_n d_Mo_greatest_103 rfl ?_
              refine mj_get (ci := 9) (j := 20) d_Mo_greatest_104 rfl w_Mo_46 (by decide) (by omega) (by assumption) rfl ?_
              refine mj_iload_n d_Mo_greatest_107 rfl ?_
              refine mz_iald d_Mo_greatest_108 (by omega) (by assumption) (rfl) (by omega) ?_
              refine mj_aload_n d_Mo_greatest_109 rfl ?_
              refine mj_get (ci := 9) (j := 6) d_Mo_greatest_110 rfl w_Mo_17 (by decide) (by omega) (by assumption) rfl ?_
              refine mj_iload_n d_Mo_greatest_113 rfl ?_
              refine mz_iald d_Mo_greatest_114 (by omega) (by assumption) (rfl) (by omega) ?_
              rw [hKa.1, hKk.1]
              refine mz_icmp_eq 124 d_Mo_greatest_115 (by decide) (by omega) (by omega) (fun c_115 => ?_) (fun c_115 => ?_)
              · have hkk : KM2 a = KW k := by omega
                refine mj_iload_n d_Mo_greatest_124 rfl ?_
                refine mj_aload_n d_Mo_greatest_125 rfl ?_
                refine mj_get (ci := 9) (j := 4) d_Mo_greatest_126 rfl w_Mo_129 (by decide) (by omega) (by assumption) rfl ?_
                refine mz_icmp_ne 138 d_Mo_greatest_129 (by decide) (by omega) (by omega) (fun c_129 => ?_) (fun c_129 => ?_)
                · refine mj_aload_n d_Mo_greatest_138 rfl ?_
                  refine mj_get (ci := 9) (j := 17) d_Mo_greatest_139 rfl w_Mo_39 (by decide) (by omega) (by assumption) rfl ?_
                  refine mj_iload_n d_Mo_greatest_142 rfl ?_
                  refine mj_iload_n d_Mo_greatest_143 rfl ?_
                  refine mz_iast d_Mo_greatest_144 (by omega) (by assumption) (rfl) (by omega) (fun S_144 w_144 e_144 f_144 => ?_)
                  have t1 := f_144.at t1 (by simp)
                  have b1 := f_144.at b1 (by simp)
                  have h1' := f_144.at h1' (by simp)
                  refine mj_aload_n d_Mo_greatest_145 rfl ?_
                  refine mj_get (ci := 9) (j := 18) d_Mo_greatest_146 rfl w_Mo_42 (by decide) (by omega) (by assumption) rfl ?_
                  refine mj_iload_n d_Mo_greatest_149 rfl ?_
                  refine mz_iconst d_Mo_greatest_150 ?_
                  refine mz_zast d_Mo_greatest_151 (by omega) (by assumption) (rfl) (by omega) (by decide) (fun S_151 w_151 e_151 f_151 => ?_)
                  have e_144 := f_151.at e_144 (by simp)
                  have b1 := f_151.at b1 (by simp)
                  have h1' := f_151.at h1' (by simp)
                  have f3 : mj_fr S S_151 [49, 50, 53] := (f2.tr f_144 (l := [49, 50, 53]) (by simp) (by simp)).tr f_151 (by simp) (by simp)
                  have hN : ∀ j, j ≤ k → va_up Nb k (a : Int) j = (va_up ch k a j : Nat) := by
                    intro j hj
                    by_cases e : j = k
                    · subst e; rw [va_up_self, va_up_self]
                    · rw [va_up_ne _ _ e, va_up_ne _ _ e]
                      exact n2 j (by omega)
                  have hfa : f a st1 = gmI n KM2 KW B r (k + 1) (va_up ch k a) (va_up tk a true) st1 := by rw [hf]; exact if_pos ⟨hta, hkk⟩
                  -- back at this level
                  have back : ∀ (st2 : Bool × (Nat → Int)) (S4 : mj_S) (y3 : Value), c1 y3 → f a st1 = st2 → gbX S S4 (k + 1) (va_up ch k a) (va_up tk a true) st2.2 → mj_Ok Γ d M_Mo_greatest 0 0 32 [.ref 40, .int (iZ (if st2.1 then 1 else 0)), .int (iZ k), y3] [] S4 (mj_I Q) := by
                    intro st2 S4 y3 q3 hfs hx4
                    obtain ⟨f4, ⟨Nb4, n14, n24⟩, ⟨T4, t14, t24⟩, Bz4, b14, b24⟩ := hx4
                    have h14 := f4.at h1 (by simp)
                    have hw4 := f4.w.trans hw
                    have hb4 : Nb4 k = (a : Int) := by rw [n24 k (by omega), va_up_self]
                    refine mj_iload_n d_Mo_greatest_32 rfl ?_
                    refine mz_if_lt 165 d_Mo_greatest_33 (by decide) (by omega) (fun c_33 => ?_) (fun c_33 => ?_)
                    · omega
                    · refine mj_iload_n d_Mo_greatest_36 rfl ?_
                      refine mj_aload_n d_Mo_greatest_37 rfl ?_
                      refine mj_get (ci := 9) (j := 4) d_Mo_greatest_38 rfl w_Mo_129 (by decide) (by omega) (by assumption) rfl ?_
                      refine mz_icmp_ne 56 d_Mo_greatest_41 (by decide) (by omega) (by omega) (fun c_41 => ?_) (fun c_41 => ?_)
                      · refine mj_aload_n d_Mo_greatest_56 rfl ?_
                        refine mj_get (ci := 9) (j := 17) d_Mo_greatest_57 rfl w_Mo_39 (by decide) (by omega) (by assumption) rfl ?_
                        refine mj_iload_n d_Mo_greatest_60 rfl ?_
                        refine mz_iald d_Mo_greatest_61 (by omega) (by assumption) (rfl) (by omega) ?_
                        rw [hb4]
                        refine mz_if_lt 77 d_Mo_greatest_62 (by decide) (by omega) (fun c_62 => ?_) (fun c_62 => ?_)
                        · omega
                        · refine mj_aload_n d_Mo_greatest_65 rfl ?_
                          refine mj_get (ci := 9) (j := 18) d_Mo_greatest_66 rfl w_Mo_42 (by decide) (by omega) (by assumption) rfl ?_
                          refine mj_aload_n d_Mo_greatest_69 rfl ?_
                          refine mj_get (ci := 9) (j := 17) d_Mo_greatest_70 rfl w_Mo_39 (by decide) (by omega) (by assumption) rfl ?_
                          refine mj_iload_n d_Mo_greatest_73 rfl ?_
                          refine mz_iald d_Mo_greatest_74 (by omega) (by assumption) (rfl) (by omega) ?_
                          rw [hb4]
                          refine mz_iconst d_Mo_greatest_75 ?_
                          refine mz_zast d_Mo_greatest_76 (by omega) (by assumption) (rfl) (by omega) (by decide) (fun S_76 w_76 e_76 f_76 => ?_)
                          have n14' := f_76.at n14 (by simp)
                          have h14 := f_76.at h14 (by simp)
                          refine mj_aload_n d_Mo_greatest_77 rfl ?_
                          refine mj_get (ci := 9) (j := 17) d_Mo_greatest_78 rfl w_Mo_39 (by decide) (by omega) (by assumption) rfl ?_
                          refine mj_iload_n d_Mo_greatest_81 rfl ?_
                          refine mz_iald d_Mo_greatest_82 (by omega) (by assumption) (rfl) (by omega) ?_
                          rw [hb4]
                          refine mz_iconst d_Mo_greatest_83 ?_
                          refine mz_iadd d_Mo_greatest_84 ?_
                          refine mz_ist3 d_Mo_greatest_85 (by unfold mj_c1; simp only [List.all_cons, q3]; rfl) ?_
                          have w3 := ihq (a + 1) st2 S_76 (by omega) ⟨f4.tr f_76 (by simp) (by simp), ⟨Nb4, n14', fun j hj => by rw [n24 j (by omega), va_up_ne _ _ (by omega)]⟩, ⟨_, e_76, fun j hj => by
                            by_cases e : j = a
                            · subst e; rw [va_up_self, hta]; rfl
                            · rw [va_up_ne _ _ e, t24 j hj, va_up_ne _ _ e]⟩, Bz4, f_76.at b14 (by simp), b24⟩ (by rw [← he, chR, hfs])
                          rw [show ((a + 1 : Nat) : Int) = (a : Int) + 1 by omega] at w3
                          exact w3
                      · omega
                  refine mz_inc2 d_Mo_greatest_152 (rfl) ?_
                  refine mj_aload_n d_Mo_greatest_155 rfl ?_
                  refine mj_get (ci := 9) (j := 17) d_Mo_greatest_156 rfl w_Mo_39 (by decide) (by omega) (by assumption) rfl ?_
                  refine mj_iload_n d_Mo_greatest_159 rfl ?_
                  refine mz_iconst d_Mo_greatest_160 ?_
                  refine mz_iast (j := k + 1) d_Mo_greatest_161 (by omega) (by assumption) (by omega) (by omega) (fun S_161 w_161 e_161 f_161 => ?_)
                  refine mj_goto 32 d_Mo_greatest_162 (by decide) ?_
                  have hx5 : gbX S S_161 (k + 1) (va_up ch k a) (va_up tk a true) st1.2 := by
                    refine ⟨f3.tr f_161 (by simp) (by simp), ⟨_, e_161, fun j hj => by rw [va_up_ne _ _ (by omega)]; exact hN j (by omega)⟩, ⟨_, f_161.at e_151 (by simp), fun j hj => ?_⟩, Bz, f_161.at b1 (by simp), b2⟩
                    by_cases e : j = a
                    · subst e; rw [va_up_self, va_up_self]; rfl
                    · rw [va_up_ne _ _ e, va_up_ne _ _ e]; exact t2 j hj
                  have w5 := ih (k + 1) (va_up ch k a) (va_up tk a true) st1 S_161 (.int (iZ a)) rfl (by omega) (fun j hj => by
                    by_cases e : j = k
                    · subst e; rw [va_up_self, va_up_self]; exact ⟨by omega, rfl⟩
                    · rw [va_up_ne _ _ e]
                      have q1 := hch j (by omega)
                      refine ⟨q1.1, ?_⟩
                      by_cases e2 : ch j = a
                      · rw [e2, va_up_self]
                      · rw [va_up_ne _ _ e2]; exact q1.2) hx5 ⟨_, e_161, va_up_self _ _ _⟩ (fun S6 y3 q3 hx6 => by
                    have w7 := back _ S6 y3 q3 hfa hx6
                    rw [show ((k + 1 : Nat) : Int) - 1 = (k : Int) by omega]
                    exact w7)
                  rw [show ((k + 1 : Nat) : Int) = (k : Int) + 1 by omega] at w5
                  exact w5
                · omega
              · refine mz_inc3 d_Mo_greatest_118 (rfl) ?_
                refine mj_goto 86 d_Mo_greatest_121 (by decide) ?_
                exact skip (by rw [hf]; exact if_neg (fun q => c_115 (by rw [q.2])))
      obtain ⟨f2, -, -⟩ := id hx
      obtain ⟨Nb, n1, hnk⟩ := hnb
      have h1' := f2.at h1 (by simp)
      have hw2 := f2.w.trans hw
      refine mj_iload_n d_Mo_greatest_32 rfl ?_
      refine mz_if_lt 165 d_Mo_greatest_33 (by decide) (by omega) (fun c_33 => ?_) (fun c_33 => ?_)
      · omega
      · refine mj_iload_n d_Mo_greatest_36 rfl ?_
        refine mj_aload_n d_Mo_greatest_37 rfl ?_
        refine mj_get (ci := 9) (j := 4) d_Mo_greatest_38 rfl w_Mo_129 (by decide) (by omega) (by assumption) rfl ?_
        refine mz_icmp_ne 56 d_Mo_greatest_41 (by decide) (by omega) (by omega) (fun c_41 => ?_) (fun c_41 => ?_)
        · refine mj_aload_n d_Mo_greatest_56 rfl ?_
          refine mj_get (ci := 9) (j := 17) d_Mo_greatest_57 rfl w_Mo_39 (by decide) (by omega) (by assumption) rfl ?_
          refine mj_iload_n d_Mo_greatest_60 rfl ?_
          refine mz_iald d_Mo_greatest_61 (by omega) (by assumption) (rfl) (by omega) ?_
          rw [hnk]
          refine mz_if_lt 77 d_Mo_greatest_62 (by decide) (by omega) (fun c_62 => ?_) (fun c_62 => ?_)
          · refine mj_aload_n d_Mo_greatest_77 rfl ?_
            refine mj_get (ci := 9) (j := 17) d_Mo_greatest_78 rfl w_Mo_39 (by decide) (by omega) (by assumption) rfl ?_
            refine mj_iload_n d_Mo_greatest_81 rfl ?_
            refine mz_iald d_Mo_greatest_82 (by omega) (by assumption) (rfl) (by omega) ?_
            rw [hnk]
            refine mz_iconst d_Mo_greatest_83 ?_
            refine mz_iadd d_Mo_greatest_84 ?_
            refine mz_ist3 d_Mo_greatest_85 (by unfold mj_c1; simp only [List.all_cons, g3]; rfl) ?_
            exact c86 n 0 st S1 (by omega) hx rfl
          · omega
        · omega
  refine mj_Met.of (by decide) ⟨rfl, rfl⟩ rfl rfl rfl ?_
  refine mz_iconst d_Mo_greatest_0 ?_
  refine mz_ist1 d_Mo_greatest_1 (rfl) ?_
  refine mz_iconst d_Mo_greatest_2 ?_
  refine mz_ist2 d_Mo_greatest_3 (rfl) ?_
  refine mj_aload_n d_Mo_greatest_4 rfl ?_
  refine mj_get (ci := 9) (j := 17) d_Mo_greatest_5 rfl w_Mo_39 (by decide) (by omega) (by assumption) rfl ?_
  refine mz_iconst d_Mo_greatest_8 ?_
  refine mz_iconst d_Mo_greatest_9 ?_
  refine mz_iast (j := 0) d_Mo_greatest_10 (by omega) (by assumption) (by omega) (by omega) (fun S_10 w_10 e_10 f_10 => ?_)
  have h1' := f_10.at h1 (by simp)
  have h47' := f_10.at h47 (by simp)
  refine mz_iconst d_Mo_greatest_11 ?_
  refine mz_ist3 d_Mo_greatest_12 (rfl) ?_
  have fill : ∀ (q j : Nat) (S2 : mj_S) (T : Nat → Int), j + q = 6 → mj_fr S S2 [49, 50] → S2.1 49 = .inl (0, 7, .inl (mj_z (va_up Nb0 0 (-1)))) → S2.1 50 = .inl (2, 6, .inl (mj_z T)) → (∀ i, i < j → T i = 0) → mj_Ok Γ d M_Mo_greatest 0 0 13 [.ref 40, .int (iZ 0), .int (iZ 0), .int (iZ j)] [] S2 (mj_I Q) := by
    intro q
    induction q with
    | zero =>
      intro j S2 T hj f2 n2 t2 hT
      have : j = 6 := by omega
      subst this
      refine mj_iload_n d_Mo_greatest_13 rfl ?_
      refine mz_bipush d_Mo_greatest_14 (by decide) ?_
      refine mz_icmp_ge 32 d_Mo_greatest_16 (by decide) (by omega) (by omega) (fun c_16 => ?_) (fun c_16 => ?_)
      · refine entry n 0 (fun _ => 0) (fun _ => false) (false, fun _ => -1) S2 _ rfl (by omega) (fun j hj => absurd hj (Nat.not_lt_zero j)) ⟨f2.tr (mj_fr.rf _ []) (by simp) (by simp), ⟨_, n2, fun j hj => absurd hj (Nat.not_lt_zero j)⟩, ⟨T, t2, fun j hj => hT j hj⟩, Bs0, f2.at h50 (by simp), fun p hp => ⟨hBs p hp, by show (-1 : Int) ≤ -1; omega, by show (-1 : Int) ≤ 3; omega⟩⟩ ⟨_, n2, va_up_self _ _ _⟩ (fun S3 y3 q3 hx3 => ?_)
        refine mj_iload_n d_Mo_greatest_32 rfl ?_
        refine mz_if_lt 165 d_Mo_greatest_33 (by decide) (by omega) (fun c_33 => ?_) (fun c_33 => ?_)
        · have hnr := mj_narZ (gmI n KM2 KW B n 0 (fun _ => 0) (fun _ => false) (false, fun _ => -1)).1
          refine mj_iload_n d_Mo_greatest_165 rfl ?_
          refine mz_iret d_Mo_greatest_166 rfl (hnr) ?_
          rw [hQ]
          exact ⟨rfl, hx3⟩
        · omega
      · omega
    | succ q ih =>
      intro j S2 T hj f2 n2 t2 hT
      have h12 := f2.at h1 (by simp)
      have hw2 := f2.w.trans hw
      refine mj_iload_n d_Mo_greatest_13 rfl ?_
      refine mz_bipush d_Mo_greatest_14 (by decide) ?_
      refine mz_icmp_ge 32 d_Mo_greatest_16 (by decide) (by omega) (by omega) (fun c_16 => ?_) (fun c_16 => ?_)
      · omega
      · refine mj_aload_n d_Mo_greatest_19 rfl ?_
        refine mj_get (ci := 9) (j := 18) d_Mo_greatest_20 rfl w_Mo_42 (by decide) (by omega) (by assumption) rfl ?_
        refine mj_iload_n d_Mo_greatest_23 rfl ?_
        refine mz_iconst d_Mo_greatest_24 ?_
        refine mz_zast d_Mo_greatest_25 (by omega) (by assumption) (rfl) (by omega) (by decide) (fun S_25 w_25 e_25 f_25 => ?_)
        refine mz_inc3 d_Mo_greatest_26 (rfl) ?_
        refine mj_goto 13 d_Mo_greatest_29 (by decide) ?_
        have w := ih (j + 1) S_25 _ (by omega) (f2.tr f_25 (by simp) (by simp)) (f_25.at n2 (by simp)) e_25 (fun i hi => by
          by_cases e : i = j
          · subst e; rw [va_up_self]
          · rw [va_up_ne _ _ e]; exact hT i (by omega))
        rw [show ((j + 1 : Nat) : Int) = (j : Int) + 1 by omega] at w
        exact w
  exact fill 6 0 S_10 T0 (by omega) (f_10.tr (mj_fr.rf _ []) (by simp) (by simp)) e_10 h47' (fun i hi => absurd hi (Nat.not_lt_zero i))
end GR2
