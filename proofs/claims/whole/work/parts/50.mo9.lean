/-! the reference: ways -/
section MO9
variable {Γ : mj_G} {d L n h : Nat} {S : mj_S} {C : Nat → Int} {rf fp : Int} {KM : Nat → Nat} {acc : List Nat}
theorem mo_IL.ref {S' : mj_S} {rf' : Int} (hI : mo_IL S rf L C fp n h KM acc) (hf : mj_fr S S' [40]) (hs : ∀ tr rs fo sg : Int, mo_st S rf L fp n h acc.length tr rs fo sg → mo_st S' rf' L fp n h acc.length tr rs fo sg) : mo_IL S' rf' L C fp n h KM acc := by
  obtain ⟨hw, hL, ⟨tr, rs, fo, sg, hst⟩, hl, ⟨El, h39, h39'⟩, ⟨Tl, h40, h40'⟩, hgb, hx⟩ := hI
  exact ⟨hf.w.trans hw, hL, ⟨_, _, _, _, hs _ _ _ _ hst⟩, ⟨hf.at hl.1 (by simp), hl.2⟩, ⟨El, hf.at h39 (by simp), h39'⟩, ⟨Tl, hf.at h40 (by simp), h40'⟩, hgb.fr hf (by simp) (by simp), hx⟩
theorem m_Mo_ways (hI : mo_IL S rf L C fp n h KM acc) (hn1 : acc.length = 0 ∨ 1 ≤ n) (hm : ∀ i, i < acc.length → cOK n (n * (n - 1) / 2) KM (fun j => mj_VAL (KM j)) (acc.getD i 0)) {k : Int} (hk : iR k) (hd : 3 ≤ d) :
    mj_Met Γ d y_Mo_ways M_Mo_ways [.ref 40, .int (iZ k)] S 0 0 (mj_I fun z S' => mj_fr S S' [40, 44, 45, 49, 50] ∧ (((0 ≤ k ∧ k < acc.length) ∧ (∃ w : Nat, nbI n KM (mB (fun p => dg (acc.getD k.toNat 0) p)) n 0 (fun _ => 0) (fun _ => false) 0 = some w ∧ z = w) ∧ mo_IL S' 0 L C fp n h KM acc) ∨ (¬ (0 ≤ k ∧ k < acc.length) ∧ mo_IL S' 1 L C fp n h KM acc))) := by
  have hI0 := hI
  obtain ⟨hw, hL, ⟨tr, rs, fo, sg, hst⟩, hl, ⟨El, h39, h39'⟩, ⟨Tl, h40, h40'⟩, hgb, hn6, hh, hal⟩ := hI
  have h1 : S.1 40 = _ := hst
  obtain ⟨Q, hQ⟩ : ∃ Q : Int → mj_S → Prop, Q = (fun (z : Int) (S' : mj_S) => mj_fr S S' [40, 44, 45, 49, 50] ∧ (((0 ≤ k ∧ k < acc.length) ∧ (∃ w : Nat, nbI n KM (mB (fun p => dg (acc.getD k.toNat 0) p)) n 0 (fun _ => 0) (fun _ => false) 0 = some w ∧ z = w) ∧ mo_IL S' 0 L C fp n h KM acc) ∨ (¬ (0 ≤ k ∧ k < acc.length) ∧ mo_IL S' 1 L C fp n h KM acc))) := ⟨_, rfl⟩
  rw [← hQ]
  refine mj_Met.of (by decide) ⟨rfl, rfl⟩ rfl rfl rfl ?_
  refine mj_aload_n d_Mo_ways_0 rfl ?_
  refine mj_aload_n d_Mo_ways_1 rfl ?_
  refine mj_iload_n d_Mo_ways_2 rfl ?_
  refine mz_callV1i (ci := 9) d_Mo_ways_3 (m_Mo_isStructure (d := 0) hw hst (by omega) hk) cw_Mo_isStructure lk_Mo_193 rfl rfl (by omega) (by assumption) (by omega) rfl (fun z_3 S_3 h_3 => ?_)
  obtain ⟨e3, hz⟩ := h_3
  rw [e3]
  by_cases q : 0 ≤ k ∧ k < acc.length
  · rw [if_pos q] at hz
    subst hz
    refine mz_if_eq 13 d_Mo_ways_6 (by decide) (by omega) (fun c_6 => ?_) (fun c_6 => ?_)
    · omega
    · refine mz_iconst d_Mo_ways_9 ?_
      refine mj_goto 14 d_Mo_ways_10 (by decide) ?_
      refine mz_callV1i (ci := 9) d_Mo_ways_14 (m_Mo_refused (d := 0) (x := 0) hw hst (by decide)) cw_Mo_refused lk_Mo_91 rfl rfl (by omega) (by assumption) (by omega) rfl (fun z_14 S_14 h_14 => ?_)
      obtain ⟨g1, hz, g2⟩ := h_14
      rw [if_neg (by decide)] at hz
      subst hz
      refine mz_if_eq 22 d_Mo_ways_17 (by decide) (by omega) (fun c_17 => ?_) (fun c_17 => ?_)
      · refine mz_iconst d_Mo_ways_22 ?_
        refine mz_ist2 d_Mo_ways_23 (rfl) ?_
        obtain ⟨i, rfl⟩ : ∃ i : Nat, k = i := ⟨k.toNat, by omega⟩
        rw [Int.toNat_natCast] at hQ
        have hi : i < acc.length := by omega
        obtain ⟨Kd, h41⟩ := hgb.1 44 (by omega) (by omega)
        have h41 : S.1 44 = .inl (0, 6, .inl (mj_z Kd)) := h41
        obtain ⟨Cd, h42, -⟩ := hgb.2
        have loop2 : ∀ (r j : Nat) (S2 : mj_S) (Kd2 Cd2 : Nat → Int), j + r = 15 → mj_fr S S2 [40, 44, 45] → mo_st S2 0 L fp n h acc.length tr rs fo sg → S2.1 44 = .inl (0, 6, .inl (mj_z Kd2)) → (∀ x, x < n → Kd2 x = KM x) → S2.1 45 = .inl (0, 15, .inl (mj_z Cd2)) → (∀ x, x < j → Cd2 x = (dg (acc.getD i 0) x : Nat)) → mj_Ok Γ d M_Mo_ways 0 0 52 [.ref 40, .int (iZ i), .int (iZ j)] [] S2 (mj_I Q) := by
          intro r
          induction r with
          | zero =>
            intro j S2 Kd2 Cd2 hj f2 m2 k2 k2' c2 c2'
            have : j = 15 := by omega
            subst this
            have m20 : S2.1 40 = _ := m2
            have hw2 := f2.w.trans hw
            have gb2 : mo_gb S2 := by
              refine hgb.fr2 f2 (fun o ho h1 h2 => ?_) ⟨Cd2, c2, fun x hx => ⟨_, c2' x hx, Nat.mod_lt _ (by decide)⟩⟩
              simp only [List.mem_cons, List.not_mem_nil, or_false] at ho
              have : o = 44 ∨ o = 45 := by omega
              rcases this with rfl | rfl
              · exact ⟨_, k2⟩
              · exact ⟨_, c2⟩
            obtain ⟨Nb, h46⟩ := gb2.1 49 (by omega) (by omega)
            obtain ⟨T, h47⟩ := gb2.1 50 (by omega) (by omega)
            refine mj_iload_n d_Mo_ways_52 rfl ?_
            refine mz_bipush d_Mo_ways_53 (by decide) ?_
            refine mz_icmp_ge 81 d_Mo_ways_55 (by decide) (by omega) (by omega) (fun c_55 => ?_) (fun c_55 => ?_)
            · refine mj_aload_n d_Mo_ways_81 rfl ?_
              refine mj_aload_n d_Mo_ways_82 rfl ?_
              refine mj_get (ci := 9) (j := 4) d_Mo_ways_83 rfl w_Mo_129 (by decide) (by omega) (by assumption) rfl ?_
              refine mz_callV1i (ci := 9) d_Mo_ways_86 (m_Mo_numberings (d := 2) (m := n) (KM := KM) (cd := fun p => dg (acc.getD i 0) p) (B := mB (fun p => dg (acc.getD i 0) p)) hw2 m2 h46 h47 k2 c2 (by omega) (by omega) (fun x hx => ⟨k2' x hx, by have := h39' x hx; omega⟩) c2' (fun a b ha hb => mB_mx _ 15 a b ha hb (pr_lt a ha b hb)) (mB_lt (fun x hx => Nat.mod_lt _ (by decide))) (by omega)) cw_Mo_numberings lk_Mo_155 rfl rfl (by omega) (by assumption) (by omega) rfl (fun z_86 S_86 h_86 => ?_)
              obtain ⟨n1, ⟨Nb2, n2⟩, ⟨T2, n3⟩, n4⟩ := h_86
              refine mz_iret d_Mo_ways_89 rfl (rfl) ?_
              have f3 : mj_fr S S_86 [40, 44, 45, 49, 50] := f2.tr n1 (by simp) (by simp)
              rw [hQ]
              refine ⟨f3, Or.inl ⟨q, ?_, ?_⟩⟩
              · rcases n4 with ⟨e, _⟩ | n4
                · exfalso
                  obtain ⟨cd, hc1, hc2, hc3, -⟩ := hm i hi
                  apply hc3
                  rw [← e]
                  refine nbI_congr (fun _ _ => rfl) (fun x y hx hy => mB_congr hn6 (fun p hp => ?_) x y hx hy) n 0 _ _ 0 (by omega) (fun j hj => absurd hj (Nat.not_lt_zero j))
                  rw [hc1]
                  have P15 := (show ∀ a, a ≤ 6 → a * (a - 1) / 2 ≤ 15 by decide) n hn6
                  show cd p = dg _ p
                  rw [dg_pk P15 (by omega) hc2, if_pos hp]
                · exact n4
              · have gb3 : mo_gb S_86 := by
                  refine gb2.fr n1 (by simp) (fun o ho h1 h2 => ?_)
                  simp only [List.mem_cons, List.not_mem_nil, or_false] at ho
                  rcases ho with rfl | rfl
                  · exact ⟨_, n2⟩
                  · exact ⟨_, n3⟩
                exact ⟨n1.w.trans hw2, hL, ⟨_, _, _, _, n1.at m2 (by simp)⟩, ⟨f3.at hl.1 (by simp), hl.2⟩, ⟨El, f3.at h39 (by simp), h39'⟩, ⟨Tl, f3.at h40 (by simp), h40'⟩, gb3, hn6, hh, hal⟩
            · omega
          | succ r ih =>
            intro j S2 Kd2 Cd2 hj f2 m2 k2 k2' c2 c2'
            have m20 : S2.1 40 = _ := m2
            have hw2 := f2.w.trans hw
            have h402 := f2.at h40 (by simp)
            refine mj_iload_n d_Mo_ways_52 rfl ?_
            refine mz_bipush d_Mo_ways_53 (by decide) ?_
            refine mz_icmp_ge 81 d_Mo_ways_55 (by decide) (by omega) (by omega) (fun c_55 => ?_) (fun c_55 => ?_)
            · omega
            · refine mj_aload_n d_Mo_ways_58 rfl ?_
              refine mj_get (ci := 9) (j := 11) d_Mo_ways_59 rfl w_Mo_27 (by decide) (by omega) (by assumption) rfl ?_
              refine mj_iload_n d_Mo_ways_62 rfl ?_
              refine mj_aload_n d_Mo_ways_63 rfl ?_
              refine mj_get (ci := 9) (j := 8) d_Mo_ways_64 rfl w_Mo_21 (by decide) (by omega) (by assumption) rfl ?_
              refine mz_bipush d_Mo_ways_67 (by decide) ?_
              refine mj_iload_n d_Mo_ways_69 rfl ?_
              refine mz_imul d_Mo_ways_70 ?_
              refine mj_iload_n d_Mo_ways_71 rfl ?_
              refine mz_iadd d_Mo_ways_72 ?_
              refine mz_iald (j := 15 * i + j) d_Mo_ways_73 (by omega) (by assumption) (by omega) (by omega) ?_
              refine mz_iast (j := j) d_Mo_ways_74 (by omega) (by assumption) (by omega) (by omega) (fun S_74 w_74 e_74 f_74 => ?_)
              refine mz_inc2 d_Mo_ways_75 (rfl) ?_
              refine mj_goto 52 d_Mo_ways_78 (by decide) ?_
              have w := ih (j + 1) S_74 Kd2 _ (by omega) (f2.tr f_74 (by simp) (by simp)) (f_74.at m20 (by simp)) (f_74.at k2 (by simp)) k2' e_74 (fun x hx => by
                by_cases e : x = j
                · subst e; rw [va_up_self]; exact h40' i hi x (by omega)
                · rw [va_up_ne _ _ e]; exact c2' x (by omega))
              rw [show ((j + 1 : Nat) : Int) = (j : Int) + 1 by omega] at w
              exact w
        have loop1 : ∀ (r j : Nat) (S2 : mj_S) (Kd2 : Nat → Int), j + r = n → mj_fr S S2 [40, 44] → mo_st S2 0 L fp n h acc.length tr rs fo sg → S2.1 44 = .inl (0, 6, .inl (mj_z Kd2)) → (∀ x, x < j → Kd2 x = KM x) → mj_Ok Γ d M_Mo_ways 0 0 24 [.ref 40, .int (iZ i), .int (iZ j)] [] S2 (mj_I Q) := by
          intro r
          induction r with
          | zero =>
            intro j S2 Kd2 hj f2 m2 k2 k2'
            have : j = n := by omega
            subst this
            have m20 : S2.1 40 = _ := m2
            have hw2 := f2.w.trans hw
            refine mj_iload_n d_Mo_ways_24 rfl ?_
            refine mj_aload_n d_Mo_ways_25 rfl ?_
            refine mj_get (ci := 9) (j := 4) d_Mo_ways_26 rfl w_Mo_129 (by decide) (by omega) (by assumption) rfl ?_
            refine mz_icmp_ge 50 d_Mo_ways_29 (by decide) (by omega) (by omega) (fun c_29 => ?_) (fun c_29 => ?_)
            · refine mz_iconst d_Mo_ways_50 ?_
              refine mz_ist2 d_Mo_ways_51 (rfl) ?_
              exact loop2 15 0 S2 Kd2 Cd (by omega) (f2.tr (mj_fr.rf _ []) (by simp) (by simp)) m2 k2 k2' (f2.at h42 (by simp)) (fun x hx => absurd hx (Nat.not_lt_zero x))
            · omega
          | succ r ih =>
            intro j S2 Kd2 hj f2 m2 k2 k2'
            have m20 : S2.1 40 = _ := m2
            have hw2 := f2.w.trans hw
            have h392 := f2.at h39 (by simp)
            refine mj_iload_n d_Mo_ways_24 rfl ?_
            refine mj_aload_n d_Mo_ways_25 rfl ?_
            refine mj_get (ci := 9) (j := 4) d_Mo_ways_26 rfl w_Mo_129 (by decide) (by omega) (by assumption) rfl ?_
            refine mz_icmp_ge 50 d_Mo_ways_29 (by decide) (by omega) (by omega) (fun c_29 => ?_) (fun c_29 => ?_)
            · omega
            · refine mj_aload_n d_Mo_ways_32 rfl ?_
              refine mj_get (ci := 9) (j := 10) d_Mo_ways_33 rfl w_Mo_24 (by decide) (by omega) (by assumption) rfl ?_
              refine mj_iload_n d_Mo_ways_36 rfl ?_
              refine mj_aload_n d_Mo_ways_37 rfl ?_
              refine mj_get (ci := 9) (j := 6) d_Mo_ways_38 rfl w_Mo_17 (by decide) (by omega) (by assumption) rfl ?_
              refine mj_iload_n d_Mo_ways_41 rfl ?_
              refine mz_iald d_Mo_ways_42 (by omega) (by assumption) (rfl) (by omega) ?_
              refine mz_iast d_Mo_ways_43 (by omega) (by assumption) (rfl) (by omega) (fun S_43 w_43 e_43 f_43 => ?_)
              refine mz_inc2 d_Mo_ways_44 (rfl) ?_
              refine mj_goto 24 d_Mo_ways_47 (by decide) ?_
              have w := ih (j + 1) S_43 _ (by omega) (f2.tr f_43 (by simp) (by simp)) (f_43.at m20 (by simp)) e_43 (fun x hx => by
                by_cases e : x = j
                · subst e; rw [va_up_self]; exact (h39' x (by omega)).1
                · rw [va_up_ne _ _ e]; exact k2' x (by omega))
              rw [show ((j + 1 : Nat) : Int) = (j : Int) + 1 by omega] at w
              exact w
        exact loop1 n 0 S_14 Kd (by omega) (g1.tr (mj_fr.rf _ []) (by simp) (by simp)) g2 (g1.at h41 (by simp)) (fun x hx => absurd hx (Nat.not_lt_zero x))
      · omega
  · rw [if_neg q] at hz
    subst hz
    refine mz_if_eq 13 d_Mo_ways_6 (by decide) (by omega) (fun c_6 => ?_) (fun c_6 => ?_)
    · refine mz_iconst d_Mo_ways_13 ?_
      refine mz_callV1i (ci := 9) d_Mo_ways_14 (m_Mo_refused (d := 0) (x := 1) hw hst (by decide)) cw_Mo_refused lk_Mo_91 rfl rfl (by omega) (by assumption) (by omega) rfl (fun z_14 S_14 h_14 => ?_)
      obtain ⟨g1, hz, g2⟩ := h_14
      rw [if_pos (by decide)] at hz
      subst hz
      refine mz_if_eq 22 d_Mo_ways_17 (by decide) (by omega) (fun c_17 => ?_) (fun c_17 => ?_)
      · omega
      · refine mz_iconst d_Mo_ways_20 ?_
        refine mz_iret d_Mo_ways_21 rfl (rfl) ?_
        rw [hQ]
        refine ⟨g1.tr (mj_fr.rf _ []) (by simp) (by simp), Or.inr ⟨q, ?_⟩⟩
        exact ⟨g1.w.trans hw, hL, ⟨_, _, _, _, g2⟩, ⟨g1.at hl.1 (by simp), hl.2⟩, ⟨El, g1.at h39 (by simp), h39'⟩, ⟨Tl, g1.at h40 (by simp), h40'⟩, hgb.fr g1 (by simp) (by simp), hn6, hh, hal⟩
    · omega
end MO9
