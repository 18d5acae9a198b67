/-! the law: the calls that may throw -/
theorem lg_cmp_self (x : Int64) : lg_cmp x x = iZ 0 := by
  unfold lg_cmp
  simp
  rfl
theorem bv_hi {c n x y : Nat} (h : n ≤ y) : bv c n x y = 0 := by
  unfold bv
  rw [if_neg (by omega), if_neg (by omega)]
theorem bv_sum6 {c n a : Nat} (hn : n ≤ 6) : mj_sum (fun y => (bv c n a y : Int)) 6 = mj_sum (fun y => (bv c n a y : Int)) n := by
  have e : ∀ m, n + m ≤ 6 → mj_sum (fun y => (bv c n a y : Int)) (n + m) = mj_sum (fun y => (bv c n a y : Int)) n := by
    intro m
    induction m with
    | zero => intro _; rfl
    | succ m ih => intro h; rw [← Nat.add_assoc, mj_sum, ih (by omega), bv_hi (by omega)]; simp
  have w := e (6 - n) (by omega)
  rw [show n + (6 - n) = 6 by omega] at w
  exact w
section LW2
variable {Γ : mj_G} {d i k0 n0 Ln : Nat} {S : mj_S} {XS C : Nat → Int} {rf fp : Int} {L n h : Nat} {KM : Nat → Nat} {acc : List Nat} {f : Nat → Int64} {P : mj_O → mj_S → Prop} {x5 x6 : Value}
theorem LN.more (nx : LN Γ d k0 n0 i P) : LN Γ d (k0 + 1) (n0 + 6) i P := fun S' rf L C fp n h KM acc f y5 y6 g5 g6 hJ => (nx S' rf L C fp n h KM acc f y5 y6 g5 g6 hJ).more (Nat.le_refl _) (by omega) (by omega)
theorem law_type_tail {S2 : mj_S} {rf2 k z1 z2 : Int} {L2 n2 h2 : Nat} {C2 : Nat → Int} {fp2 : Int} {KM2 : Nat → Nat} {acc2 : List Nat} {f2 : Nat → Int64} (hJ : JS S2 rf2 L2 C2 fp2 n2 h2 KM2 acc2 f2) (g6 : c1 x6) (hk : (k = 0 ∧ rf2 = 0 ∧ f2 0 = (iZ z1).toInt64 ∧ z2 = z1) ∨ (k = 1 ∧ rf2 = 1)) (hd : 300 ≤ d) (nx : LN Γ d k0 n0 i P) : mj_Ok Γ d M_Lw_law k0 n0 125 [.ref (mj_st + 3), .ref 0, .ref 40, .ref 64, .int (iZ i), .int (iZ k), x6] [.int (iZ z2)] S2 P := by
  obtain ⟨hw, -, ⟨tr, rs, fo, sg, hst⟩, -⟩ := id hJ.2.1
  have hst0 : S2.1 40 = _ := hst
  have h61 := hJ.2.2.1
  refine mz_ist6 d_Lw_law_125 (by unfold mj_c1; simp only [List.all_cons, g6]; rfl) ?_
  refine mj_aload_n d_Lw_law_127 rfl ?_
  refine mz_callV0i (ci := 9) d_Lw_law_128 (m_Mo_thrown (d := 0) hw hst) cw_Mo_thrown lk_Lw_45 rfl rfl (by omega) (by assumption) (by omega) rfl (fun z_128 S_128 h_128 => ?_)
  obtain ⟨e1, rfl⟩ := h_128
  rw [e1]
  rcases hk with ⟨rfl, hr, hf, hz⟩ | ⟨rfl, hr⟩
  · subst hr
    refine mj_iload d_Lw_law_131 rfl ?_
    refine mz_icmp_eq 138 d_Lw_law_133 (by decide) (by omega) (by omega) (fun c_133 => ?_) (fun c_133 => ?_)
    · refine mj_iload d_Lw_law_138 rfl ?_
      refine mz_if_ne 155 d_Lw_law_140 (by decide) (by omega) (fun c_140 => ?_) (fun c_140 => ?_)
      · exact absurd rfl c_140
      · refine mj_aload_n d_Lw_law_143 rfl ?_
        refine mz_iconst d_Lw_law_144 ?_
        refine mj_lald (j := 0) d_Lw_law_145 (by omega) h61 rfl (by decide) ?_
        refine mj_iload d_Lw_law_146 rfl ?_
        refine mj_i2l d_Lw_law_148 ?_
        refine mj_lcmp d_Lw_law_149 ?_
        rw [hf, hz, lg_cmp_self]
        refine mz_if_eq 155 d_Lw_law_150 (by decide) (by omega) (fun c_150 => ?_) (fun c_150 => ?_)
        · refine mj_goto 576 d_Lw_law_155 (by decide) ?_
          exact nx S2 0 L2 C2 fp2 n2 h2 KM2 acc2 f2 _ _ rfl rfl hJ
        · exact absurd rfl c_150
    · exact absurd rfl c_133
  · subst hr
    refine mj_iload d_Lw_law_131 rfl ?_
    refine mz_icmp_eq 138 d_Lw_law_133 (by decide) (by omega) (by omega) (fun c_133 => ?_) (fun c_133 => ?_)
    · refine mj_iload d_Lw_law_138 rfl ?_
      refine mz_if_ne 155 d_Lw_law_140 (by decide) (by omega) (fun c_140 => ?_) (fun c_140 => ?_)
      · refine mj_goto 576 d_Lw_law_155 (by decide) ?_
        exact nx S2 1 L2 C2 fp2 n2 h2 KM2 acc2 f2 _ _ rfl rfl hJ
      · exact absurd c_140 (by decide)
    · exact absurd rfl c_133
theorem law_type (hT : mj_tab Γ) (hJ : JS S rf L C fp n h KM acc f) (g5 : c1 x5) (g6 : c1 x6) (hR : Γ.ro 3 = (Ln, .inl (mj_z XS))) (hXS : ∀ j, iR (XS j)) (hLn : Ln ≤ 2048) (hi : i + 4 ≤ Ln) (hd : 300 ≤ d) (nx : LN Γ d k0 n0 i P) : mj_Ok Γ d M_Lw_law (k0 + 1) (n0 + 6) 100 [.ref (mj_st + 3), .ref 0, .ref 40, .ref 64, .int (iZ i), x5, x6] [] S P := by
  have hlt := hJ.lt
  have hck := hJ.ck
  have hn1 := hJ.n1
  obtain ⟨hI, hM, h61, hc⟩ := hJ
  obtain ⟨cu, sp, -, hw, ho, -⟩ := id hI
  have ho : S.1 0 = _ := ho
  obtain ⟨-, hL, -, hlc, ⟨El, h39, h39'⟩, ⟨Tl, h40, h40'⟩, -, hn6, hh, hal⟩ := id hM
  obtain ⟨c, hcd⟩ : ∃ c : Nat, c = (iZ (XS (i + 1))).toBitVec.toNat % 65536 := ⟨_, rfl⟩
  have hc65 : c < 65536 := by rw [hcd]; exact Nat.mod_lt _ (by decide)
  have ec : ((iZ (XS (i + 1))).toUInt32 % 65536).toInt32 = iZ ((c : Nat) : Int) := by rw [pk_char, ← hcd]; rfl
  refine mj_aload_n d_Lw_law_100 rfl ?_
  refine mj_aload_n d_Lw_law_101 rfl ?_
  refine mj_iload d_Lw_law_102 rfl ?_
  refine mz_iconst d_Lw_law_104 ?_
  refine mz_iadd d_Lw_law_105 ?_
  refine mz_irot (j := i + 1) d_Lw_law_106 (by decide) rfl (hR) (by omega) (by omega) ?_ (by omega)
  refine mj_i2c d_Lw_law_107 ?_
  rw [ec]
  refine mj_aload_n d_Lw_law_108 rfl ?_
  by_cases q : L < 60
  · refine mj_callSH (k := k0 + 1) (n := n0 + 6) (As := [.ref 0, .int (iZ ((c : Nat) : Int)), .ref 64]) (st := []) d_Lw_law_109 (h_type_ok (d := 2) (f := f) hw ho (m_IL_type_ok (d := 1) hI q (c := (c : Int)) (by omega) (by omega)) (fun z1 S1 h1 => ⟨h1.1.w.trans hw, h1.1.at h61 lo_61⟩) (Nat.lt_succ_self _)) ch_type lh_type (by omega) rfl (fun v S3 hv => ?_)
    obtain ⟨z0, rfl, rfl, z1, S1, h1, rfl⟩ := hv
    have fu : mj_fr S1 (mj_up S1 64 (.inl (3, 1, .inr (.inl (vp_updL f 0 (iZ z1).toInt64))))) [64] := mj_fr.up _ _ _
    have e61 : (mj_up S1 64 (.inl (3, 1, .inr (.inl (vp_updL f 0 (iZ z1).toInt64))))).1 64 = .inl (3, 1, .inr (.inl (vp_updL f 0 (iZ z1).toInt64))) := mj_up_self _ _ _
    have ef : vp_updL f 0 (iZ z1).toInt64 0 = (iZ z1).toInt64 := if_pos rfl
    obtain ⟨f1, h1b, hI1⟩ := h1
    have hM1 := (hM.lo f1 lo_lt).lo fu (by simp)
    have hI2 := hI1.hi fu (by simp)
    obtain ⟨S3, hS3⟩ : ∃ S3, S3 = mj_up S1 64 (.inl (3, 1, .inr (.inl (vp_updL f 0 (iZ z1).toInt64)))) := ⟨_, rfl⟩
    rw [← hS3] at e61 hM1 hI2 ⊢
    have nx2 := nx.more
    generalize k0 + 1 = k1 at nx2 ⊢
    generalize n0 + 6 = n1 at nx2 ⊢
    obtain ⟨hw1, -, ⟨tr, rs, fo, sg, hst⟩, hlc1, ⟨El1, h391, h391'⟩, ⟨Tl1, h401, h401'⟩, hgb1, -⟩ := id hM1
    have hst0 : S3.1 40 = _ := hst
    refine mz_ist5 d_Lw_law_112 (by unfold mj_c1; simp only [List.all_cons, g5, g6]; rfl) ?_
    refine mj_aload_n d_Lw_law_114 rfl ?_
    refine mj_aload_n d_Lw_law_115 rfl ?_
    refine mj_iload d_Lw_law_116 rfl ?_
    refine mz_iconst d_Lw_law_118 ?_
    refine mz_iadd d_Lw_law_119 ?_
    refine mz_irot (j := i + 1) d_Lw_law_120 (by decide) rfl (hR) (by omega) (by omega) ?_ (by omega)
    refine mj_i2c d_Lw_law_121 ?_
    rw [ec]
    refine mz_callV1i (ci := 9) d_Lw_law_122 (m_Mo_type (d := 1) hw1 hst hlc1 hL (c := (c : Int)) (by omega) (by omega)) cw_Mo_type lk_Lw_44 rfl rfl (by omega) (by assumption) (by omega) rfl (fun z_122 S_122 h_122 => ?_)
    obtain ⟨f4, ⟨z, -⟩ | ⟨-, hz2, hs4, hl4⟩⟩ := h_122
    · omega
    · exact law_type_tail (k := 0) (z1 := z1) (show JS S_122 0 (L + 1) (va_up C L (c : Int)) fp n h KM acc (vp_updL f 0 (iZ z1).toInt64) from ⟨hI2.hi f4 (by simp), ⟨f4.w.trans hw1, by omega, ⟨_, _, _, _, hs4⟩, hl4, ⟨El1, f4.at h391 (by simp), h391'⟩, ⟨Tl1, f4.at h401 (by simp), h401'⟩, hgb1.fr f4 (by simp) (by simp), hn6, hh, hal⟩, f4.at e61 (by simp), hc⟩) g6 (Or.inl ⟨rfl, rfl, ef, by rw [hz2, h1b]⟩) hd nx2
  · refine mj_callSH (k := k0) (n := n0) (As := [.ref 0, .int (iZ ((c : Nat) : Int)), .ref 64]) (st := []) d_Lw_law_109 (h_type_no (d := 7) hw ho (m_IL_type_no (d := 6) hI (by omega) (c := (c : Int)) (by omega)) (Nat.lt_succ_self _)) ch_type lh_type (by omega) rfl (fun v S3 hv => ?_)
    obtain ⟨z0, rfl, rfl, rfl⟩ := hv
    have hM1 : mo_IL (mj_bp S) rf L C fp n h KM acc := hM
    have hI2 : mj_IL (mj_bp S) L C fp n h KM acc := hI
    have e61 : (mj_bp S).1 64 = .inl (3, 1, .inr (.inl f)) := h61
    obtain ⟨S3, hS3⟩ : ∃ S3, S3 = mj_bp S := ⟨_, rfl⟩
    rw [← hS3] at e61 hM1 hI2 ⊢
    obtain ⟨hw1, -, ⟨tr, rs, fo, sg, hst⟩, hlc1, ⟨El1, h391, h391'⟩, ⟨Tl1, h401, h401'⟩, hgb1, -⟩ := id hM1
    have hst0 : S3.1 40 = _ := hst
    refine mz_ist5 d_Lw_law_112 (by unfold mj_c1; simp only [List.all_cons, g5, g6]; rfl) ?_
    refine mj_aload_n d_Lw_law_114 rfl ?_
    refine mj_aload_n d_Lw_law_115 rfl ?_
    refine mj_iload d_Lw_law_116 rfl ?_
    refine mz_iconst d_Lw_law_118 ?_
    refine mz_iadd d_Lw_law_119 ?_
    refine mz_irot (j := i + 1) d_Lw_law_120 (by decide) rfl (hR) (by omega) (by omega) ?_ (by omega)
    refine mj_i2c d_Lw_law_121 ?_
    rw [ec]
    refine mz_callV1i (ci := 9) d_Lw_law_122 (m_Mo_type (d := 1) hw1 hst hlc1 hL (c := (c : Int)) (by omega) (by omega)) cw_Mo_type lk_Lw_44 rfl rfl (by omega) (by assumption) (by omega) rfl (fun z_122 S_122 h_122 => ?_)
    obtain ⟨f4, ⟨-, hs4, hl4⟩ | ⟨z, -⟩⟩ := h_122
    · exact law_type_tail (k := 1) (z1 := 0) (show JS S_122 1 L C fp n h KM acc f from ⟨hI2.hi f4 (by simp), ⟨f4.w.trans hw1, hL, ⟨_, _, _, _, hs4⟩, hl4, ⟨El1, f4.at h391 (by simp), h391'⟩, ⟨Tl1, f4.at h401 (by simp), h401'⟩, hgb1.fr f4 (by simp) (by simp), hn6, hh, hal⟩, f4.at e61 (by simp), hc⟩) g6 (Or.inr ⟨rfl, rfl⟩) hd nx
    · omega
theorem law_element_tail {S2 : mj_S} {rf2 k z1 z2 : Int} {L2 n2 h2 : Nat} {C2 : Nat → Int} {fp2 : Int} {KM2 : Nat → Nat} {acc2 : List Nat} {f2 : Nat → Int64} (hJ : JS S2 rf2 L2 C2 fp2 n2 h2 KM2 acc2 f2) (g6 : c1 x6) (hk : (k = 0 ∧ rf2 = 0 ∧ f2 0 = (iZ z1).toInt64 ∧ z2 = z1) ∨ (k = 1 ∧ rf2 = 1)) (hd : 300 ≤ d) (nx : LN Γ d k0 n0 i P) : mj_Ok Γ d M_Lw_law k0 n0 258 [.ref (mj_st + 3), .ref 0, .ref 40, .ref 64, .int (iZ i), .int (iZ k), x6] [.int (iZ z2)] S2 P := by
  obtain ⟨hw, -, ⟨tr, rs, fo, sg, hst⟩, -⟩ := id hJ.2.1
  have hst0 : S2.1 40 = _ := hst
  have h61 := hJ.2.2.1
  refine mz_ist6 d_Lw_law_258 (by unfold mj_c1; simp only [List.all_cons, g6]; rfl) ?_
  refine mj_aload_n d_Lw_law_260 rfl ?_
  refine mz_callV0i (ci := 9) d_Lw_law_261 (m_Mo_thrown (d := 0) hw hst) cw_Mo_thrown lk_Lw_45 rfl rfl (by omega) (by assumption) (by omega) rfl (fun z_261 S_261 h_261 => ?_)
  obtain ⟨e1, rfl⟩ := h_261
  rw [e1]
  rcases hk with ⟨rfl, hr, hf, hz⟩ | ⟨rfl, hr⟩
  · subst hr
    refine mj_iload d_Lw_law_264 rfl ?_
    refine mz_icmp_eq 271 d_Lw_law_266 (by decide) (by omega) (by omega) (fun c_266 => ?_) (fun c_266 => ?_)
    · refine mj_iload d_Lw_law_271 rfl ?_
      refine mz_if_ne 288 d_Lw_law_273 (by decide) (by omega) (fun c_273 => ?_) (fun c_273 => ?_)
      · exact absurd rfl c_273
      · refine mj_aload_n d_Lw_law_276 rfl ?_
        refine mz_iconst d_Lw_law_277 ?_
        refine mj_lald (j := 0) d_Lw_law_278 (by omega) h61 rfl (by decide) ?_
        refine mj_iload d_Lw_law_279 rfl ?_
        refine mj_i2l d_Lw_law_281 ?_
        refine mj_lcmp d_Lw_law_282 ?_
        rw [hf, hz, lg_cmp_self]
        refine mz_if_eq 288 d_Lw_law_283 (by decide) (by omega) (fun c_283 => ?_) (fun c_283 => ?_)
        · refine mj_goto 576 d_Lw_law_288 (by decide) ?_
          exact nx S2 0 L2 C2 fp2 n2 h2 KM2 acc2 f2 _ _ rfl rfl hJ
        · exact absurd rfl c_283
    · exact absurd rfl c_266
  · subst hr
    refine mj_iload d_Lw_law_264 rfl ?_
    refine mz_icmp_eq 271 d_Lw_law_266 (by decide) (by omega) (by omega) (fun c_266 => ?_) (fun c_266 => ?_)
    · refine mj_iload d_Lw_law_271 rfl ?_
      refine mz_if_ne 288 d_Lw_law_273 (by decide) (by omega) (fun c_273 => ?_) (fun c_273 => ?_)
      · refine mj_goto 576 d_Lw_law_288 (by decide) ?_
        exact nx S2 1 L2 C2 fp2 n2 h2 KM2 acc2 f2 _ _ rfl rfl hJ
      · exact absurd c_273 (by decide)
    · exact absurd rfl c_266
theorem law_element (hT : mj_tab Γ) (hJ : JS S rf L C fp n h KM acc f) (g5 : c1 x5) (g6 : c1 x6) (hR : Γ.ro 3 = (Ln, .inl (mj_z XS))) (hXS : ∀ j, iR (XS j)) (hLn : Ln ≤ 2048) (hi : i + 4 ≤ Ln) (hd : 300 ≤ d) (nx : LN Γ d k0 n0 i P) : mj_Ok Γ d M_Lw_law (k0 + 1) (n0 + 6) 235 [.ref (mj_st + 3), .ref 0, .ref 40, .ref 64, .int (iZ i), x5, x6] [] S P := by
  have hlt := hJ.lt
  have hck := hJ.ck
  have hn1 := hJ.n1
  obtain ⟨hI, hM, h61, hc⟩ := hJ
  obtain ⟨cu, sp, -, hw, ho, -⟩ := id hI
  have ho : S.1 0 = _ := ho
  obtain ⟨-, hL, -, hlc, ⟨El, h39, h39'⟩, ⟨Tl, h40, h40'⟩, -, hn6, hh, hal⟩ := id hM
  have hx1 := hXS (i + 1)
  refine mj_aload_n d_Lw_law_235 rfl ?_
  refine mj_aload_n d_Lw_law_236 rfl ?_
  refine mj_iload d_Lw_law_237 rfl ?_
  refine mz_iconst d_Lw_law_239 ?_
  refine mz_iadd d_Lw_law_240 ?_
  refine mz_irot (j := i + 1) d_Lw_law_241 (by decide) rfl (hR) (by omega) (by omega) ?_ (by omega)
  refine mj_aload_n d_Lw_law_242 rfl ?_
  by_cases q : 0 ≤ XS (i + 1) ∧ XS (i + 1) < n
  · obtain ⟨a, ha⟩ : ∃ a : Nat, XS (i + 1) = a := ⟨(XS (i + 1)).toNat, by omega⟩
    rw [ha]
    refine mj_callSH (k := k0 + 1) (n := n0 + 6) (As := [.ref 0, .int (iZ (a : Nat)), .ref 64]) (st := []) d_Lw_law_243 (h_element_ok (d := 2) (f := f) hw ho (m_IL_element_ok (d := 1) hI (a := a) (by omega) (by omega)) (fun z1 S1 h1 => by obtain ⟨h1, -⟩ := h1; rw [h1]; exact ⟨hw, h61⟩) (Nat.lt_succ_self _)) ch_element lh_element (by omega) rfl (fun v S3 hv => ?_)
    obtain ⟨z0, rfl, rfl, z1, S1, h1, rfl⟩ := hv
    have fu : mj_fr S1 (mj_up S1 64 (.inl (3, 1, .inr (.inl (vp_updL f 0 (iZ z1).toInt64))))) [64] := mj_fr.up _ _ _
    have e61 : (mj_up S1 64 (.inl (3, 1, .inr (.inl (vp_updL f 0 (iZ z1).toInt64))))).1 64 = .inl (3, 1, .inr (.inl (vp_updL f 0 (iZ z1).toInt64))) := mj_up_self _ _ _
    have ef : vp_updL f 0 (iZ z1).toInt64 0 = (iZ z1).toInt64 := if_pos rfl
    obtain ⟨h1a, h1b⟩ := h1
    have f1 : mj_fr S S1 mj_lo := by rw [h1a]; exact mj_fr.rf _ _
    have hI1 : mj_IL S1 L C fp n h KM acc := by rw [h1a]; exact hI
    have hM1 := (hM.lo f1 lo_lt).lo fu (by simp)
    have hI2 := hI1.hi fu (by simp)
    obtain ⟨S3, hS3⟩ : ∃ S3, S3 = mj_up S1 64 (.inl (3, 1, .inr (.inl (vp_updL f 0 (iZ z1).toInt64)))) := ⟨_, rfl⟩
    rw [← hS3] at e61 hM1 hI2 ⊢
    have nx2 := nx.more
    generalize k0 + 1 = k1 at nx2 ⊢
    generalize n0 + 6 = n1 at nx2 ⊢
    obtain ⟨hw1, -, ⟨tr, rs, fo, sg, hst⟩, hlc1, ⟨El1, h391, h391'⟩, ⟨Tl1, h401, h401'⟩, hgb1, -⟩ := id hM1
    have hst0 : S3.1 40 = _ := hst
    refine mz_ist5 d_Lw_law_246 (by unfold mj_c1; simp only [List.all_cons, g5, g6]; rfl) ?_
    refine mj_aload_n d_Lw_law_248 rfl ?_
    refine mj_aload_n d_Lw_law_249 rfl ?_
    refine mj_iload d_Lw_law_250 rfl ?_
    refine mz_iconst d_Lw_law_252 ?_
    refine mz_iadd d_Lw_law_253 ?_
    refine mz_irot (j := i + 1) d_Lw_law_254 (by decide) rfl (hR) (by omega) (by omega) ?_ (by omega)
    rw [ha]
    refine mz_callV1i (ci := 9) d_Lw_law_255 (m_Mo_element (d := 1) hw1 hst h391 hn6 (by constructor <;> omega) (by omega)) cw_Mo_element lk_Lw_72 rfl rfl (by omega) (by assumption) (by omega) rfl (fun z_255 S_255 h_255 => ?_)
    obtain ⟨f4, ⟨-, -, hz2, hs4⟩ | ⟨z, -⟩⟩ := h_255
    · exact law_element_tail (k := 0) (z1 := z1) (show JS S_255 0 L C fp n h KM acc (vp_updL f 0 (iZ z1).toInt64) from ⟨hI2.hi f4 (by simp), hM1.re f4 hs4 hL, f4.at e61 (by simp), hc⟩) g6 (Or.inl ⟨rfl, rfl, ef, by rw [hz2, h1b, Int.toNat_natCast, (h391' a (by omega)).1]⟩) hd nx2
    · omega
  · refine mj_callSH (k := k0) (n := n0) (As := [.ref 0, .int (iZ (XS (i + 1))), .ref 64]) (st := []) d_Lw_law_243 (h_element_no (d := 8) hw ho (m_IL_element_no (d := 7) hI hx1 q (by omega)) (Nat.lt_succ_self _)) ch_element lh_element (by omega) rfl (fun v S3 hv => ?_)
    obtain ⟨z0, rfl, rfl, rfl⟩ := hv
    have hM1 : mo_IL (mj_bp S) rf L C fp n h KM acc := hM
    have hI2 : mj_IL (mj_bp S) L C fp n h KM acc := hI
    have e61 : (mj_bp S).1 64 = .inl (3, 1, .inr (.inl f)) := h61
    obtain ⟨S3, hS3⟩ : ∃ S3, S3 = mj_bp S := ⟨_, rfl⟩
    rw [← hS3] at e61 hM1 hI2 ⊢
    obtain ⟨hw1, -, ⟨tr, rs, fo, sg, hst⟩, hlc1, ⟨El1, h391, h391'⟩, ⟨Tl1, h401, h401'⟩, hgb1, -⟩ := id hM1
    have hst0 : S3.1 40 = _ := hst
    refine mz_ist5 d_Lw_law_246 (by unfold mj_c1; simp only [List.all_cons, g5, g6]; rfl) ?_
    refine mj_aload_n d_Lw_law_248 rfl ?_
    refine mj_aload_n d_Lw_law_249 rfl ?_
    refine mj_iload d_Lw_law_250 rfl ?_
    refine mz_iconst d_Lw_law_252 ?_
    refine mz_iadd d_Lw_law_253 ?_
    refine mz_irot (j := i + 1) d_Lw_law_254 (by decide) rfl (hR) (by omega) (by omega) ?_ (by omega)
    refine mz_callV1i (ci := 9) d_Lw_law_255 (m_Mo_element (d := 1) hw1 hst h391 hn6 hx1 (by omega)) cw_Mo_element lk_Lw_72 rfl rfl (by omega) (by assumption) (by omega) rfl (fun z_255 S_255 h_255 => ?_)
    obtain ⟨f4, ⟨z1, z2, -⟩ | ⟨-, hs4⟩⟩ := h_255
    · exact absurd ⟨z1, z2⟩ q
    · exact law_element_tail (k := 1) (z1 := 0) (show JS S_255 1 L C fp n h KM acc f from ⟨hI2.hi f4 (by simp), hM1.re f4 hs4 hL, f4.at e61 (by simp), hc⟩) g6 (Or.inr ⟨rfl, rfl⟩) hd nx
theorem law_bond_tail {S2 : mj_S} {rf2 k z1 z2 : Int} {L2 n2 h2 : Nat} {C2 : Nat → Int} {fp2 : Int} {KM2 : Nat → Nat} {acc2 : List Nat} {f2 : Nat → Int64} (hJ : JS S2 rf2 L2 C2 fp2 n2 h2 KM2 acc2 f2) (g6 : c1 x6) (hk : (k = 0 ∧ rf2 = 0 ∧ f2 0 = (iZ z1).toInt64 ∧ z2 = z1) ∨ (k = 1 ∧ rf2 = 1)) (hd : 300 ≤ d) (nx : LN Γ d k0 n0 i P) : mj_Ok Γ d M_Lw_law k0 n0 338 [.ref (mj_st + 3), .ref 0, .ref 40, .ref 64, .int (iZ i), .int (iZ k), x6] [.int (iZ z2)] S2 P := by
  obtain ⟨hw, -, ⟨tr, rs, fo, sg, hst⟩, -⟩ := id hJ.2.1
  have hst0 : S2.1 40 = _ := hst
  have h61 := hJ.2.2.1
  refine mz_ist6 d_Lw_law_338 (by unfold mj_c1; simp only [List.all_cons, g6]; rfl) ?_
  refine mj_aload_n d_Lw_law_340 rfl ?_
  refine mz_callV0i (ci := 9) d_Lw_law_341 (m_Mo_thrown (d := 0) hw hst) cw_Mo_thrown lk_Lw_45 rfl rfl (by omega) (by assumption) (by omega) rfl (fun z_341 S_341 h_341 => ?_)
  obtain ⟨e1, rfl⟩ := h_341
  rw [e1]
  rcases hk with ⟨rfl, hr, hf, hz⟩ | ⟨rfl, hr⟩
  · subst hr
    refine mj_iload d_Lw_law_344 rfl ?_
    refine mz_icmp_eq 351 d_Lw_law_346 (by decide) (by omega) (by omega) (fun c_346 => ?_) (fun c_346 => ?_)
    · refine mj_iload d_Lw_law_351 rfl ?_
      refine mz_if_ne 368 d_Lw_law_353 (by decide) (by omega) (fun c_353 => ?_) (fun c_353 => ?_)
      · exact absurd rfl c_353
      · refine mj_aload_n d_Lw_law_356 rfl ?_
        refine mz_iconst d_Lw_law_357 ?_
        refine mj_lald (j := 0) d_Lw_law_358 (by omega) h61 rfl (by decide) ?_
        refine mj_iload d_Lw_law_359 rfl ?_
        refine mj_i2l d_Lw_law_361 ?_
        refine mj_lcmp d_Lw_law_362 ?_
        rw [hf, hz, lg_cmp_self]
        refine mz_if_eq 368 d_Lw_law_363 (by decide) (by omega) (fun c_363 => ?_) (fun c_363 => ?_)
        · refine mj_goto 576 d_Lw_law_368 (by decide) ?_
          exact nx S2 0 L2 C2 fp2 n2 h2 KM2 acc2 f2 _ _ rfl rfl hJ
        · exact absurd rfl c_363
    · exact absurd rfl c_346
  · subst hr
    refine mj_iload d_Lw_law_344 rfl ?_
    refine mz_icmp_eq 351 d_Lw_law_346 (by decide) (by omega) (by omega) (fun c_346 => ?_) (fun c_346 => ?_)
    · refine mj_iload d_Lw_law_351 rfl ?_
      refine mz_if_ne 368 d_Lw_law_353 (by decide) (by omega) (fun c_353 => ?_) (fun c_353 => ?_)
      · refine mj_goto 576 d_Lw_law_368 (by decide) ?_
        exact nx S2 1 L2 C2 fp2 n2 h2 KM2 acc2 f2 _ _ rfl rfl hJ
      · exact absurd c_353 (by decide)
    · exact absurd rfl c_346
theorem law_bond (hT : mj_tab Γ) (hJ : JS S rf L C fp n h KM acc f) (g5 : c1 x5) (g6 : c1 x6) (hR : Γ.ro 3 = (Ln, .inl (mj_z XS))) (hXS : ∀ j, iR (XS j)) (hLn : Ln ≤ 2048) (hi : i + 4 ≤ Ln) (hd : 300 ≤ d) (nx : LN Γ d k0 n0 i P) : mj_Ok Γ d M_Lw_law (k0 + 1) (n0 + 6) 291 [.ref (mj_st + 3), .ref 0, .ref 40, .ref 64, .int (iZ i), x5, x6] [] S P := by
  have hlt := hJ.lt
  have hck := hJ.ck
  have hn1 := hJ.n1
  obtain ⟨hI, hM, h61, hc⟩ := hJ
  obtain ⟨cu, sp, -, hw, ho, -⟩ := id hI
  have ho : S.1 0 = _ := ho
  obtain ⟨-, hL, -, hlc, ⟨El, h39, h39'⟩, ⟨Tl, h40, h40'⟩, -, hn6, hh, hal⟩ := id hM
  have hx1 := hXS (i + 1)
  have hx2 := hXS (i + 2)
  have hx3 := hXS (i + 3)
  refine mj_aload_n d_Lw_law_291 rfl ?_
  refine mj_aload_n d_Lw_law_292 rfl ?_
  refine mj_iload d_Lw_law_293 rfl ?_
  refine mz_iconst d_Lw_law_295 ?_
  refine mz_iadd d_Lw_law_296 ?_
  refine mz_irot (j := i + 1) d_Lw_law_297 (by decide) rfl (hR) (by omega) (by omega) ?_ (by omega)
  refine mj_aload_n d_Lw_law_298 rfl ?_
  refine mj_iload d_Lw_law_299 rfl ?_
  refine mz_iconst d_Lw_law_301 ?_
  refine mz_iadd d_Lw_law_302 ?_
  refine mz_irot (j := i + 2) d_Lw_law_303 (by decide) rfl (hR) (by omega) (by omega) ?_ (by omega)
  refine mj_aload_n d_Lw_law_304 rfl ?_
  refine mj_iload d_Lw_law_305 rfl ?_
  refine mz_iconst d_Lw_law_307 ?_
  refine mz_iadd d_Lw_law_308 ?_
  refine mz_irot (j := i + 3) d_Lw_law_309 (by decide) rfl (hR) (by omega) (by omega) ?_ (by omega)
  refine mj_aload_n d_Lw_law_310 rfl ?_
  by_cases q : (0 ≤ XS (i + 1) ∧ XS (i + 1) < acc.length) ∧ (0 ≤ XS (i + 2) ∧ XS (i + 2) < n) ∧ (0 ≤ XS (i + 3) ∧ XS (i + 3) < n)
  · obtain ⟨a, ha⟩ : ∃ a : Nat, XS (i + 1) = a := ⟨(XS (i + 1)).toNat, by omega⟩
    obtain ⟨b, hb⟩ : ∃ b : Nat, XS (i + 2) = b := ⟨(XS (i + 2)).toNat, by omega⟩
    obtain ⟨b2, hb2⟩ : ∃ b2 : Nat, XS (i + 3) = b2 := ⟨(XS (i + 3)).toNat, by omega⟩
    rw [ha, hb, hb2]
    refine mj_callSH (k := k0 + 1) (n := n0 + 6) (As := [.ref 0, .int (iZ (a : Nat)), .int (iZ (b : Nat)), .int (iZ (b2 : Nat)), .ref 64]) (st := []) d_Lw_law_311 (h_bond_ok (d := 5) (f := f) hw ho (m_IL_bond_ok (d := 4) hT hI hlt (i := a) (a := b) (b := b2) (by omega) (by omega) (by omega) (by omega)) (fun z1 S1 h1 => ⟨h1.1.w.trans hw, h1.1.at h61 lo_61⟩) (Nat.lt_succ_self _)) ch_bond lh_bond (by omega) rfl (fun v S3 hv => ?_)
    obtain ⟨z0, rfl, rfl, z1, S1, h1, rfl⟩ := hv
    have fu : mj_fr S1 (mj_up S1 64 (.inl (3, 1, .inr (.inl (vp_updL f 0 (iZ z1).toInt64))))) [64] := mj_fr.up _ _ _
    have e61 : (mj_up S1 64 (.inl (3, 1, .inr (.inl (vp_updL f 0 (iZ z1).toInt64))))).1 64 = .inl (3, 1, .inr (.inl (vp_updL f 0 (iZ z1).toInt64))) := mj_up_self _ _ _
    have ef : vp_updL f 0 (iZ z1).toInt64 0 = (iZ z1).toInt64 := if_pos rfl
    obtain ⟨f1, h1b, hI1⟩ := h1
    have hM1 := (hM.lo f1 lo_lt).lo fu (by simp)
    have hI2 := hI1.hi fu (by simp)
    obtain ⟨S3, hS3⟩ : ∃ S3, S3 = mj_up S1 64 (.inl (3, 1, .inr (.inl (vp_updL f 0 (iZ z1).toInt64)))) := ⟨_, rfl⟩
    rw [← hS3] at e61 hM1 hI2 ⊢
    have nx2 := nx.more
    generalize k0 + 1 = k1 at nx2 ⊢
    generalize n0 + 6 = n1 at nx2 ⊢
    obtain ⟨hw1, -, ⟨tr, rs, fo, sg, hst⟩, hlc1, ⟨El1, h391, h391'⟩, ⟨Tl1, h401, h401'⟩, hgb1, -⟩ := id hM1
    have hst0 : S3.1 40 = _ := hst
    refine mz_ist5 d_Lw_law_314 (by unfold mj_c1; simp only [List.all_cons, g5, g6]; rfl) ?_
    refine mj_aload_n d_Lw_law_316 rfl ?_
    refine mj_aload_n d_Lw_law_317 rfl ?_
    refine mj_iload d_Lw_law_318 rfl ?_
    refine mz_iconst d_Lw_law_320 ?_
    refine mz_iadd d_Lw_law_321 ?_
    refine mz_irot (j := i + 1) d_Lw_law_322 (by decide) rfl (hR) (by omega) (by omega) ?_ (by omega)
    refine mj_aload_n d_Lw_law_323 rfl ?_
    refine mj_iload d_Lw_law_324 rfl ?_
    refine mz_iconst d_Lw_law_326 ?_
    refine mz_iadd d_Lw_law_327 ?_
    refine mz_irot (j := i + 2) d_Lw_law_328 (by decide) rfl (hR) (by omega) (by omega) ?_ (by omega)
    refine mj_aload_n d_Lw_law_329 rfl ?_
    refine mj_iload d_Lw_law_330 rfl ?_
    refine mz_iconst d_Lw_law_332 ?_
    refine mz_iadd d_Lw_law_333 ?_
    refine mz_irot (j := i + 3) d_Lw_law_334 (by decide) rfl (hR) (by omega) (by omega) ?_ (by omega)
    rw [ha, hb, hb2]
    refine mz_callV3i (ci := 9) d_Lw_law_335 (m_Mo_bond (d := 2) (z0 := acc.length) hw1 hst h401 hn6 hal (by constructor <;> omega) (by constructor <;> omega) (by constructor <;> omega) (by omega)) cw_Mo_bond lk_Lw_76 rfl rfl (by omega) (by assumption) (by omega) rfl (fun z_335 S_335 h_335 => ?_)
    obtain ⟨f4, ⟨-, -, -, hz2, hs4⟩ | ⟨z, -⟩⟩ := h_335
    · exact law_bond_tail (k := 0) (z1 := z1) (show JS S_335 0 L C fp n h KM acc (vp_updL f 0 (iZ z1).toInt64) from ⟨hI2.hi f4 (by simp), hM1.re f4 hs4 hL, f4.at e61 (by simp), hc⟩) g6 (Or.inl ⟨rfl, rfl, ef, by rw [hz2, h1b, Int.toNat_natCast, Int.toNat_natCast, Int.toNat_natCast, mo_bd_bv h401' (by omega) hn6 (by omega) (by omega)]⟩) hd nx2
    · omega
  · refine mj_callSH (k := k0) (n := n0) (As := [.ref 0, .int (iZ (XS (i + 1))), .int (iZ (XS (i + 2))), .int (iZ (XS (i + 3))), .ref 64]) (st := []) d_Lw_law_311 (h_bond_no (d := 8) hw ho (m_IL_bond_no (d := 7) hI hx1 hx2 hx3 q (by omega)) (Nat.lt_succ_self _)) ch_bond lh_bond (by omega) rfl (fun v S3 hv => ?_)
    obtain ⟨z0, rfl, rfl, rfl⟩ := hv
    have hM1 : mo_IL (mj_bp S) rf L C fp n h KM acc := hM
    have hI2 : mj_IL (mj_bp S) L C fp n h KM acc := hI
    have e61 : (mj_bp S).1 64 = .inl (3, 1, .inr (.inl f)) := h61
    obtain ⟨S3, hS3⟩ : ∃ S3, S3 = mj_bp S := ⟨_, rfl⟩
    rw [← hS3] at e61 hM1 hI2 ⊢
    obtain ⟨hw1, -, ⟨tr, rs, fo, sg, hst⟩, hlc1, ⟨El1, h391, h391'⟩, ⟨Tl1, h401, h401'⟩, hgb1, -⟩ := id hM1
    have hst0 : S3.1 40 = _ := hst
    refine mz_ist5 d_Lw_law_314 (by unfold mj_c1; simp only [List.all_cons, g5, g6]; rfl) ?_
    refine mj_aload_n d_Lw_law_316 rfl ?_
    refine mj_aload_n d_Lw_law_317 rfl ?_
    refine mj_iload d_Lw_law_318 rfl ?_
    refine mz_iconst d_Lw_law_320 ?_
    refine mz_iadd d_Lw_law_321 ?_
    refine mz_irot (j := i + 1) d_Lw_law_322 (by decide) rfl (hR) (by omega) (by omega) ?_ (by omega)
    refine mj_aload_n d_Lw_law_323 rfl ?_
    refine mj_iload d_Lw_law_324 rfl ?_
    refine mz_iconst d_Lw_law_326 ?_
    refine mz_iadd d_Lw_law_327 ?_
    refine mz_irot (j := i + 2) d_Lw_law_328 (by decide) rfl (hR) (by omega) (by omega) ?_ (by omega)
    refine mj_aload_n d_Lw_law_329 rfl ?_
    refine mj_iload d_Lw_law_330 rfl ?_
    refine mz_iconst d_Lw_law_332 ?_
    refine mz_iadd d_Lw_law_333 ?_
    refine mz_irot (j := i + 3) d_Lw_law_334 (by decide) rfl (hR) (by omega) (by omega) ?_ (by omega)
    refine mz_callV3i (ci := 9) d_Lw_law_335 (m_Mo_bond (d := 2) (z0 := acc.length) hw1 hst h401 hn6 hal hx1 hx2 hx3 (by omega)) cw_Mo_bond lk_Lw_76 rfl rfl (by omega) (by assumption) (by omega) rfl (fun z_335 S_335 h_335 => ?_)
    obtain ⟨f4, ⟨z1, z2, z3, -⟩ | ⟨-, hs4⟩⟩ := h_335
    · exact absurd ⟨z1, z2, z3⟩ q
    · exact law_bond_tail (k := 1) (z1 := 0) (show JS S_335 1 L C fp n h KM acc f from ⟨hI2.hi f4 (by simp), hM1.re f4 hs4 hL, f4.at e61 (by simp), hc⟩) g6 (Or.inr ⟨rfl, rfl⟩) hd nx
theorem law_hydrogens_tail {S2 : mj_S} {rf2 k z1 z2 : Int} {L2 n2 h2 : Nat} {C2 : Nat → Int} {fp2 : Int} {KM2 : Nat → Nat} {acc2 : List Nat} {f2 : Nat → Int64} (hJ : JS S2 rf2 L2 C2 fp2 n2 h2 KM2 acc2 f2) (g6 : c1 x6) (hk : (k = 0 ∧ rf2 = 0 ∧ f2 0 = (iZ z1).toInt64 ∧ z2 = z1) ∨ (k = 1 ∧ rf2 = 1)) (hd : 300 ≤ d) (nx : LN Γ d k0 n0 i P) : mj_Ok Γ d M_Lw_law k0 n0 406 [.ref (mj_st + 3), .ref 0, .ref 40, .ref 64, .int (iZ i), .int (iZ k), x6] [.int (iZ z2)] S2 P := by
  obtain ⟨hw, -, ⟨tr, rs, fo, sg, hst⟩, -⟩ := id hJ.2.1
  have hst0 : S2.1 40 = _ := hst
  have h61 := hJ.2.2.1
  refine mz_ist6 d_Lw_law_406 (by unfold mj_c1; simp only [List.all_cons, g6]; rfl) ?_
  refine mj_aload_n d_Lw_law_408 rfl ?_
  refine mz_callV0i (ci := 9) d_Lw_law_409 (m_Mo_thrown (d := 0) hw hst) cw_Mo_thrown lk_Lw_45 rfl rfl (by omega) (by assumption) (by omega) rfl (fun z_409 S_409 h_409 => ?_)
  obtain ⟨e1, rfl⟩ := h_409
  rw [e1]
  rcases hk with ⟨rfl, hr, hf, hz⟩ | ⟨rfl, hr⟩
  · subst hr
    refine mj_iload d_Lw_law_412 rfl ?_
    refine mz_icmp_eq 419 d_Lw_law_414 (by decide) (by omega) (by omega) (fun c_414 => ?_) (fun c_414 => ?_)
    · refine mj_iload d_Lw_law_419 rfl ?_
      refine mz_if_ne 436 d_Lw_law_421 (by decide) (by omega) (fun c_421 => ?_) (fun c_421 => ?_)
      · exact absurd rfl c_421
      · refine mj_aload_n d_Lw_law_424 rfl ?_
        refine mz_iconst d_Lw_law_425 ?_
        refine mj_lald (j := 0) d_Lw_law_426 (by omega) h61 rfl (by decide) ?_
        refine mj_iload d_Lw_law_427 rfl ?_
        refine mj_i2l d_Lw_law_429 ?_
        refine mj_lcmp d_Lw_law_430 ?_
        rw [hf, hz, lg_cmp_self]
        refine mz_if_eq 436 d_Lw_law_431 (by decide) (by omega) (fun c_431 => ?_) (fun c_431 => ?_)
        · refine mj_goto 576 d_Lw_law_436 (by decide) ?_
          exact nx S2 0 L2 C2 fp2 n2 h2 KM2 acc2 f2 _ _ rfl rfl hJ
        · exact absurd rfl c_431
    · exact absurd rfl c_414
  · subst hr
    refine mj_iload d_Lw_law_412 rfl ?_
    refine mz_icmp_eq 419 d_Lw_law_414 (by decide) (by omega) (by omega) (fun c_414 => ?_) (fun c_414 => ?_)
    · refine mj_iload d_Lw_law_419 rfl ?_
      refine mz_if_ne 436 d_Lw_law_421 (by decide) (by omega) (fun c_421 => ?_) (fun c_421 => ?_)
      · refine mj_goto 576 d_Lw_law_436 (by decide) ?_
        exact nx S2 1 L2 C2 fp2 n2 h2 KM2 acc2 f2 _ _ rfl rfl hJ
      · exact absurd c_421 (by decide)
    · exact absurd rfl c_414
theorem law_hydrogens (hT : mj_tab Γ) (hJ : JS S rf L C fp n h KM acc f) (g5 : c1 x5) (g6 : c1 x6) (hR : Γ.ro 3 = (Ln, .inl (mj_z XS))) (hXS : ∀ j, iR (XS j)) (hLn : Ln ≤ 2048) (hi : i + 4 ≤ Ln) (hd : 300 ≤ d) (nx : LN Γ d k0 n0 i P) : mj_Ok Γ d M_Lw_law (k0 + 1) (n0 + 6) 371 [.ref (mj_st + 3), .ref 0, .ref 40, .ref 64, .int (iZ i), x5, x6] [] S P := by
  have hlt := hJ.lt
  have hck := hJ.ck
  have hn1 := hJ.n1
  obtain ⟨hI, hM, h61, hc⟩ := hJ
  obtain ⟨cu, sp, -, hw, ho, -⟩ := id hI
  have ho : S.1 0 = _ := ho
  obtain ⟨-, hL, -, hlc, ⟨El, h39, h39'⟩, ⟨Tl, h40, h40'⟩, -, hn6, hh, hal⟩ := id hM
  have hx1 := hXS (i + 1)
  have hx2 := hXS (i + 2)
  refine mj_aload_n d_Lw_law_371 rfl ?_
  refine mj_aload_n d_Lw_law_372 rfl ?_
  refine mj_iload d_Lw_law_373 rfl ?_
  refine mz_iconst d_Lw_law_375 ?_
  refine mz_iadd d_Lw_law_376 ?_
  refine mz_irot (j := i + 1) d_Lw_law_377 (by decide) rfl (hR) (by omega) (by omega) ?_ (by omega)
  refine mj_aload_n d_Lw_law_378 rfl ?_
  refine mj_iload d_Lw_law_379 rfl ?_
  refine mz_iconst d_Lw_law_381 ?_
  refine mz_iadd d_Lw_law_382 ?_
  refine mz_irot (j := i + 2) d_Lw_law_383 (by decide) rfl (hR) (by omega) (by omega) ?_ (by omega)
  refine mj_aload_n d_Lw_law_384 rfl ?_
  by_cases q : (0 ≤ XS (i + 1) ∧ XS (i + 1) < acc.length) ∧ (0 ≤ XS (i + 2) ∧ XS (i + 2) < n)
  · obtain ⟨a, ha⟩ : ∃ a : Nat, XS (i + 1) = a := ⟨(XS (i + 1)).toNat, by omega⟩
    obtain ⟨b, hb⟩ : ∃ b : Nat, XS (i + 2) = b := ⟨(XS (i + 2)).toNat, by omega⟩
    rw [ha, hb]
    refine mj_callSH (k := k0 + 1) (n := n0 + 6) (As := [.ref 0, .int (iZ (a : Nat)), .int (iZ (b : Nat)), .ref 64]) (st := []) d_Lw_law_385 (h_hydrogens_ok (d := 5) (f := f) hw ho (m_IL_hydrogens_ok (d := 4) hT hI hlt (i := a) (a := b) (by omega) (by omega) (by omega)) (fun z1 S1 h1 => ⟨h1.1.w.trans hw, h1.1.at h61 lo_61⟩) (Nat.lt_succ_self _)) ch_hydrogens lh_hydrogens (by omega) rfl (fun v S3 hv => ?_)
    obtain ⟨z0, rfl, rfl, z1, S1, h1, rfl⟩ := hv
    have fu : mj_fr S1 (mj_up S1 64 (.inl (3, 1, .inr (.inl (vp_updL f 0 (iZ z1).toInt64))))) [64] := mj_fr.up _ _ _
    have e61 : (mj_up S1 64 (.inl (3, 1, .inr (.inl (vp_updL f 0 (iZ z1).toInt64))))).1 64 = .inl (3, 1, .inr (.inl (vp_updL f 0 (iZ z1).toInt64))) := mj_up_self _ _ _
    have ef : vp_updL f 0 (iZ z1).toInt64 0 = (iZ z1).toInt64 := if_pos rfl
    obtain ⟨f1, h1b, hI1⟩ := h1
    have hM1 := (hM.lo f1 lo_lt).lo fu (by simp)
    have hI2 := hI1.hi fu (by simp)
    obtain ⟨S3, hS3⟩ : ∃ S3, S3 = mj_up S1 64 (.inl (3, 1, .inr (.inl (vp_updL f 0 (iZ z1).toInt64)))) := ⟨_, rfl⟩
    rw [← hS3] at e61 hM1 hI2 ⊢
    have nx2 := nx.more
    generalize k0 + 1 = k1 at nx2 ⊢
    generalize n0 + 6 = n1 at nx2 ⊢
    obtain ⟨hw1, -, ⟨tr, rs, fo, sg, hst⟩, hlc1, ⟨El1, h391, h391'⟩, ⟨Tl1, h401, h401'⟩, hgb1, -⟩ := id hM1
    have hst0 : S3.1 40 = _ := hst
    refine mz_ist5 d_Lw_law_388 (by unfold mj_c1; simp only [List.all_cons, g5, g6]; rfl) ?_
    refine mj_aload_n d_Lw_law_390 rfl ?_
    refine mj_aload_n d_Lw_law_391 rfl ?_
    refine mj_iload d_Lw_law_392 rfl ?_
    refine mz_iconst d_Lw_law_394 ?_
    refine mz_iadd d_Lw_law_395 ?_
    refine mz_irot (j := i + 1) d_Lw_law_396 (by decide) rfl (hR) (by omega) (by omega) ?_ (by omega)
    refine mj_aload_n d_Lw_law_397 rfl ?_
    refine mj_iload d_Lw_law_398 rfl ?_
    refine mz_iconst d_Lw_law_400 ?_
    refine mz_iadd d_Lw_law_401 ?_
    refine mz_irot (j := i + 2) d_Lw_law_402 (by decide) rfl (hR) (by omega) (by omega) ?_ (by omega)
    rw [ha, hb]
    refine mz_callV2i (ci := 9) d_Lw_law_403 (m_Mo_hydrogens (d := 2) (z0 := acc.length) hw1 hst h401 h391 h391' hn6 hal (by constructor <;> omega) (by constructor <;> omega) (by omega)) cw_Mo_hydrogens lk_Lw_80 rfl rfl (by omega) (by assumption) (by omega) rfl (fun z_403 S_403 h_403 => ?_)
    obtain ⟨f4, ⟨-, -, hz2, hs4⟩ | ⟨z, -⟩⟩ := h_403
    · exact law_hydrogens_tail (k := 0) (z1 := z1) (show JS S_403 0 L C fp n h KM acc (vp_updL f 0 (iZ z1).toInt64) from ⟨hI2.hi f4 (by simp), hM1.re f4 hs4 hL, f4.at e61 (by simp), hc⟩) g6 (Or.inl ⟨rfl, rfl, ef, by rw [hz2, h1b, Int.toNat_natCast, Int.toNat_natCast, bv_sum6 hn6, mj_sum_congr (f := fun y => mo_bd Tl1 a b y) (g := fun y => (bv (acc.getD a 0) n b y : Int)) n (fun y hy => mo_bd_bv h401' (by omega) hn6 (by omega) hy)]⟩) hd nx2
    · omega
  · refine mj_callSH (k := k0) (n := n0) (As := [.ref 0, .int (iZ (XS (i + 1))), .int (iZ (XS (i + 2))), .ref 64]) (st := []) d_Lw_law_385 (h_hydrogens_no (d := 8) hw ho (m_IL_hydrogens_no (d := 7) hI hx1 hx2 q (by omega)) (Nat.lt_succ_self _)) ch_hydrogens lh_hydrogens (by omega) rfl (fun v S3 hv => ?_)
    obtain ⟨z0, rfl, rfl, rfl⟩ := hv
    have hM1 : mo_IL (mj_bp S) rf L C fp n h KM acc := hM
    have hI2 : mj_IL (mj_bp S) L C fp n h KM acc := hI
    have e61 : (mj_bp S).1 64 = .inl (3, 1, .inr (.inl f)) := h61
    obtain ⟨S3, hS3⟩ : ∃ S3, S3 = mj_bp S := ⟨_, rfl⟩
    rw [← hS3] at e61 hM1 hI2 ⊢
    obtain ⟨hw1, -, ⟨tr, rs, fo, sg, hst⟩, hlc1, ⟨El1, h391, h391'⟩, ⟨Tl1, h401, h401'⟩, hgb1, -⟩ := id hM1
    have hst0 : S3.1 40 = _ := hst
    refine mz_ist5 d_Lw_law_388 (by unfold mj_c1; simp only [List.all_cons, g5, g6]; rfl) ?_
    refine mj_aload_n d_Lw_law_390 rfl ?_
    refine mj_aload_n d_Lw_law_391 rfl ?_
    refine mj_iload d_Lw_law_392 rfl ?_
    refine mz_iconst d_Lw_law_394 ?_
    refine mz_iadd d_Lw_law_395 ?_
    refine mz_irot (j := i + 1) d_Lw_law_396 (by decide) rfl (hR) (by omega) (by omega) ?_ (by omega)
    refine mj_aload_n d_Lw_law_397 rfl ?_
    refine mj_iload d_Lw_law_398 rfl ?_
    refine mz_iconst d_Lw_law_400 ?_
    refine mz_iadd d_Lw_law_401 ?_
    refine mz_irot (j := i + 2) d_Lw_law_402 (by decide) rfl (hR) (by omega) (by omega) ?_ (by omega)
    refine mz_callV2i (ci := 9) d_Lw_law_403 (m_Mo_hydrogens (d := 2) (z0 := acc.length) hw1 hst h401 h391 h391' hn6 hal hx1 hx2 (by omega)) cw_Mo_hydrogens lk_Lw_80 rfl rfl (by omega) (by assumption) (by omega) rfl (fun z_403 S_403 h_403 => ?_)
    obtain ⟨f4, ⟨z1, z2, -⟩ | ⟨-, hs4⟩⟩ := h_403
    · exact absurd ⟨z1, z2⟩ q
    · exact law_hydrogens_tail (k := 1) (z1 := 0) (show JS S_403 1 L C fp n h KM acc f from ⟨hI2.hi f4 (by simp), hM1.re f4 hs4 hL, f4.at e61 (by simp), hc⟩) g6 (Or.inr ⟨rfl, rfl⟩) hd nx
theorem law_ways_tail {S2 : mj_S} {rf2 k z1 z2 : Int} {L2 n2 h2 : Nat} {C2 : Nat → Int} {fp2 : Int} {KM2 : Nat → Nat} {acc2 : List Nat} {f2 : Nat → Int64} (hJ : JS S2 rf2 L2 C2 fp2 n2 h2 KM2 acc2 f2) (g6 : c1 x6) (hk : (k = 0 ∧ rf2 = 0 ∧ f2 0 = (iZ z1).toInt64 ∧ z2 = z1) ∨ (k = 1 ∧ rf2 = 1)) (hd : 300 ≤ d) (nx : LN Γ d k0 n0 i P) : mj_Ok Γ d M_Lw_law k0 n0 462 [.ref (mj_st + 3), .ref 0, .ref 40, .ref 64, .int (iZ i), .int (iZ k), x6] [.int (iZ z2)] S2 P := by
  obtain ⟨hw, -, ⟨tr, rs, fo, sg, hst⟩, -⟩ := id hJ.2.1
  have hst0 : S2.1 40 = _ := hst
  have h61 := hJ.2.2.1
  refine mz_ist6 d_Lw_law_462 (by unfold mj_c1; simp only [List.all_cons, g6]; rfl) ?_
  refine mj_aload_n d_Lw_law_464 rfl ?_
  refine mz_callV0i (ci := 9) d_Lw_law_465 (m_Mo_thrown (d := 0) hw hst) cw_Mo_thrown lk_Lw_45 rfl rfl (by omega) (by assumption) (by omega) rfl (fun z_465 S_465 h_465 => ?_)
  obtain ⟨e1, rfl⟩ := h_465
  rw [e1]
  rcases hk with ⟨rfl, hr, hf, hz⟩ | ⟨rfl, hr⟩
  · subst hr
    refine mj_iload d_Lw_law_468 rfl ?_
    refine mz_icmp_eq 475 d_Lw_law_470 (by decide) (by omega) (by omega) (fun c_470 => ?_) (fun c_470 => ?_)
    · refine mj_iload d_Lw_law_475 rfl ?_
      refine mz_if_ne 492 d_Lw_law_477 (by decide) (by omega) (fun c_477 => ?_) (fun c_477 => ?_)
      · exact absurd rfl c_477
      · refine mj_aload_n d_Lw_law_480 rfl ?_
        refine mz_iconst d_Lw_law_481 ?_
        refine mj_lald (j := 0) d_Lw_law_482 (by omega) h61 rfl (by decide) ?_
        refine mj_iload d_Lw_law_483 rfl ?_
        refine mj_i2l d_Lw_law_485 ?_
        refine mj_lcmp d_Lw_law_486 ?_
        rw [hf, hz, lg_cmp_self]
        refine mz_if_eq 492 d_Lw_law_487 (by decide) (by omega) (fun c_487 => ?_) (fun c_487 => ?_)
        · refine mj_goto 576 d_Lw_law_492 (by decide) ?_
          exact nx S2 0 L2 C2 fp2 n2 h2 KM2 acc2 f2 _ _ rfl rfl hJ
        · exact absurd rfl c_487
    · exact absurd rfl c_470
  · subst hr
    refine mj_iload d_Lw_law_468 rfl ?_
    refine mz_icmp_eq 475 d_Lw_law_470 (by decide) (by omega) (by omega) (fun c_470 => ?_) (fun c_470 => ?_)
    · refine mj_iload d_Lw_law_475 rfl ?_
      refine mz_if_ne 492 d_Lw_law_477 (by decide) (by omega) (fun c_477 => ?_) (fun c_477 => ?_)
      · refine mj_goto 576 d_Lw_law_492 (by decide) ?_
        exact nx S2 1 L2 C2 fp2 n2 h2 KM2 acc2 f2 _ _ rfl rfl hJ
      · exact absurd c_477 (by decide)
    · exact absurd rfl c_470
theorem law_ways (hT : mj_tab Γ) (hJ : JS S rf L C fp n h KM acc f) (g5 : c1 x5) (g6 : c1 x6) (hR : Γ.ro 3 = (Ln, .inl (mj_z XS))) (hXS : ∀ j, iR (XS j)) (hLn : Ln ≤ 2048) (hi : i + 4 ≤ Ln) (hd : 300 ≤ d) (nx : LN Γ d k0 n0 i P) : mj_Ok Γ d M_Lw_law (k0 + 1) (n0 + 6) 439 [.ref (mj_st + 3), .ref 0, .ref 40, .ref 64, .int (iZ i), x5, x6] [] S P := by
  have hlt := hJ.lt
  have hck := hJ.ck
  have hn1 := hJ.n1
  obtain ⟨hI, hM, h61, hc⟩ := hJ
  obtain ⟨cu, sp, -, hw, ho, -⟩ := id hI
  have ho : S.1 0 = _ := ho
  obtain ⟨-, hL, -, hlc, ⟨El, h39, h39'⟩, ⟨Tl, h40, h40'⟩, -, hn6, hh, hal⟩ := id hM
  have hx1 := hXS (i + 1)
  refine mj_aload_n d_Lw_law_439 rfl ?_
  refine mj_aload_n d_Lw_law_440 rfl ?_
  refine mj_iload d_Lw_law_441 rfl ?_
  refine mz_iconst d_Lw_law_443 ?_
  refine mz_iadd d_Lw_law_444 ?_
  refine mz_irot (j := i + 1) d_Lw_law_445 (by decide) rfl (hR) (by omega) (by omega) ?_ (by omega)
  refine mj_aload_n d_Lw_law_446 rfl ?_
  by_cases q : 0 ≤ XS (i + 1) ∧ XS (i + 1) < acc.length
  · obtain ⟨a, ha⟩ : ∃ a : Nat, XS (i + 1) = a := ⟨(XS (i + 1)).toNat, by omega⟩
    rw [ha]
    refine mj_callSH (k := k0 + 1) (n := n0 + 6) (As := [.ref 0, .int (iZ (a : Nat)), .ref 64]) (st := []) d_Lw_law_447 (h_ways_ok (d := 10) (f := f) hw ho (m_IL_ways_ok (d := 9) hT hI hlt (i := a) (by omega) (by omega) (by omega)) (fun z1 S1 h1 => ⟨h1.1.w.trans hw, h1.1.at h61 lo_61⟩) (Nat.lt_succ_self _)) ch_ways lh_ways (by omega) rfl (fun v S3 hv => ?_)
    obtain ⟨z0, rfl, rfl, z1, S1, h1, rfl⟩ := hv
    have fu : mj_fr S1 (mj_up S1 64 (.inl (3, 1, .inr (.inl (vp_updL f 0 (iZ z1).toInt64))))) [64] := mj_fr.up _ _ _
    have e61 : (mj_up S1 64 (.inl (3, 1, .inr (.inl (vp_updL f 0 (iZ z1).toInt64))))).1 64 = .inl (3, 1, .inr (.inl (vp_updL f 0 (iZ z1).toInt64))) := mj_up_self _ _ _
    have ef : vp_updL f 0 (iZ z1).toInt64 0 = (iZ z1).toInt64 := if_pos rfl
    obtain ⟨f1, h1b, hI1⟩ := h1
    have hM1 := (hM.lo f1 lo_lt).lo fu (by simp)
    have hI2 := hI1.hi fu (by simp)
    obtain ⟨S3, hS3⟩ : ∃ S3, S3 = mj_up S1 64 (.inl (3, 1, .inr (.inl (vp_updL f 0 (iZ z1).toInt64)))) := ⟨_, rfl⟩
    rw [← hS3] at e61 hM1 hI2 ⊢
    have nx2 := nx.more
    generalize k0 + 1 = k1 at nx2 ⊢
    generalize n0 + 6 = n1 at nx2 ⊢
    obtain ⟨hw1, -, ⟨tr, rs, fo, sg, hst⟩, hlc1, ⟨El1, h391, h391'⟩, ⟨Tl1, h401, h401'⟩, hgb1, -⟩ := id hM1
    have hst0 : S3.1 40 = _ := hst
    refine mz_ist5 d_Lw_law_450 (by unfold mj_c1; simp only [List.all_cons, g5, g6]; rfl) ?_
    refine mj_aload_n d_Lw_law_452 rfl ?_
    refine mj_aload_n d_Lw_law_453 rfl ?_
    refine mj_iload d_Lw_law_454 rfl ?_
    refine mz_iconst d_Lw_law_456 ?_
    refine mz_iadd d_Lw_law_457 ?_
    refine mz_irot (j := i + 1) d_Lw_law_458 (by decide) rfl (hR) (by omega) (by omega) ?_ (by omega)
    rw [ha]
    refine mz_callV1i (ci := 9) d_Lw_law_459 (m_Mo_ways (d := 3) hM1 hn1 hck (by constructor <;> omega) (by omega)) cw_Mo_ways lk_Lw_83 rfl rfl (by omega) (by assumption) (by omega) rfl (fun z_459 S_459 h_459 => ?_)
    obtain ⟨f4, ⟨-, ⟨w, hw2, hz2⟩, hM4⟩ | ⟨z, -⟩⟩ := h_459
    · exact law_ways_tail (k := 0) (z1 := z1) (show JS S_459 0 L C fp n h KM acc (vp_updL f 0 (iZ z1).toInt64) from ⟨hI2.hi f4 (by simp), hM4, f4.at e61 (by simp), hc⟩) g6 (Or.inl ⟨rfl, rfl, ef, by rw [hz2, h1b]; rw [Int.toNat_natCast] at hw2; rw [ways_eq ⟨by omega, hn6⟩ (hck a (by omega)) hw2]⟩) hd nx2
    · omega
  · refine mj_callSH (k := k0) (n := n0) (As := [.ref 0, .int (iZ (XS (i + 1))), .ref 64]) (st := []) d_Lw_law_447 (h_ways_no (d := 8) hw ho (m_IL_ways_no (d := 7) hI hx1 q (by omega)) (Nat.lt_succ_self _)) ch_ways lh_ways (by omega) rfl (fun v S3 hv => ?_)
    obtain ⟨z0, rfl, rfl, rfl⟩ := hv
    have hM1 : mo_IL (mj_bp S) rf L C fp n h KM acc := hM
    have hI2 : mj_IL (mj_bp S) L C fp n h KM acc := hI
    have e61 : (mj_bp S).1 64 = .inl (3, 1, .inr (.inl f)) := h61
    obtain ⟨S3, hS3⟩ : ∃ S3, S3 = mj_bp S := ⟨_, rfl⟩
    rw [← hS3] at e61 hM1 hI2 ⊢
    obtain ⟨hw1, -, ⟨tr, rs, fo, sg, hst⟩, hlc1, ⟨El1, h391, h391'⟩, ⟨Tl1, h401, h401'⟩, hgb1, -⟩ := id hM1
    have hst0 : S3.1 40 = _ := hst
    refine mz_ist5 d_Lw_law_450 (by unfold mj_c1; simp only [List.all_cons, g5, g6]; rfl) ?_
    refine mj_aload_n d_Lw_law_452 rfl ?_
    refine mj_aload_n d_Lw_law_453 rfl ?_
    refine mj_iload d_Lw_law_454 rfl ?_
    refine mz_iconst d_Lw_law_456 ?_
    refine mz_iadd d_Lw_law_457 ?_
    refine mz_irot (j := i + 1) d_Lw_law_458 (by decide) rfl (hR) (by omega) (by omega) ?_ (by omega)
    refine mz_callV1i (ci := 9) d_Lw_law_459 (m_Mo_ways (d := 3) hM1 hn1 hck hx1 (by omega)) cw_Mo_ways lk_Lw_83 rfl rfl (by omega) (by assumption) (by omega) rfl (fun z_459 S_459 h_459 => ?_)
    obtain ⟨f4, ⟨z1, -⟩ | ⟨-, hM4⟩⟩ := h_459
    · exact absurd z1 q
    · exact law_ways_tail (k := 1) (z1 := 0) (show JS S_459 1 L C fp n h KM acc f from ⟨hI2.hi f4 (by simp), hM4, f4.at e61 (by simp), hc⟩) g6 (Or.inr ⟨rfl, rfl⟩) hd nx
theorem law_write_tail {S2 : mj_S} {rf2 k z1 z2 : Int} {L2 n2 h2 : Nat} {C2 : Nat → Int} {fp2 : Int} {KM2 : Nat → Nat} {acc2 : List Nat} {f2 : Nat → Int64} (hJ : JS S2 rf2 L2 C2 fp2 n2 h2 KM2 acc2 f2) (g6 : c1 x6) (hk : (k = 0 ∧ rf2 = 0 ∧ f2 0 = (iZ z1).toInt64 ∧ z2 = z1) ∨ (k = 1 ∧ rf2 = 1)) (hd : 300 ≤ d) (nx : LN Γ d k0 n0 i P) : mj_Ok Γ d M_Lw_law k0 n0 518 [.ref (mj_st + 3), .ref 0, .ref 40, .ref 64, .int (iZ i), .int (iZ k), x6] [.int (iZ z2)] S2 P := by
  obtain ⟨hw, -, ⟨tr, rs, fo, sg, hst⟩, -⟩ := id hJ.2.1
  have hst0 : S2.1 40 = _ := hst
  have h61 := hJ.2.2.1
  refine mz_ist6 d_Lw_law_518 (by unfold mj_c1; simp only [List.all_cons, g6]; rfl) ?_
  refine mj_aload_n d_Lw_law_520 rfl ?_
  refine mz_callV0i (ci := 9) d_Lw_law_521 (m_Mo_thrown (d := 0) hw hst) cw_Mo_thrown lk_Lw_45 rfl rfl (by omega) (by assumption) (by omega) rfl (fun z_521 S_521 h_521 => ?_)
  obtain ⟨e1, rfl⟩ := h_521
  rw [e1]
  rcases hk with ⟨rfl, hr, hf, hz⟩ | ⟨rfl, hr⟩
  · subst hr
    refine mj_iload d_Lw_law_524 rfl ?_
    refine mz_icmp_eq 531 d_Lw_law_526 (by decide) (by omega) (by omega) (fun c_526 => ?_) (fun c_526 => ?_)
    · refine mj_iload d_Lw_law_531 rfl ?_
      refine mz_if_ne 548 d_Lw_law_533 (by decide) (by omega) (fun c_533 => ?_) (fun c_533 => ?_)
      · exact absurd rfl c_533
      · refine mj_aload_n d_Lw_law_536 rfl ?_
        refine mz_iconst d_Lw_law_537 ?_
        refine mj_lald (j := 0) d_Lw_law_538 (by omega) h61 rfl (by decide) ?_
        refine mj_iload d_Lw_law_539 rfl ?_
        refine mj_i2l d_Lw_law_541 ?_
        refine mj_lcmp d_Lw_law_542 ?_
        rw [hf, hz, lg_cmp_self]
        refine mz_if_eq 548 d_Lw_law_543 (by decide) (by omega) (fun c_543 => ?_) (fun c_543 => ?_)
        · refine mj_goto 576 d_Lw_law_548 (by decide) ?_
          exact nx S2 0 L2 C2 fp2 n2 h2 KM2 acc2 f2 _ _ rfl rfl hJ
        · exact absurd rfl c_543
    · exact absurd rfl c_526
  · subst hr
    refine mj_iload d_Lw_law_524 rfl ?_
    refine mz_icmp_eq 531 d_Lw_law_526 (by decide) (by omega) (by omega) (fun c_526 => ?_) (fun c_526 => ?_)
    · refine mj_iload d_Lw_law_531 rfl ?_
      refine mz_if_ne 548 d_Lw_law_533 (by decide) (by omega) (fun c_533 => ?_) (fun c_533 => ?_)
      · refine mj_goto 576 d_Lw_law_548 (by decide) ?_
        exact nx S2 1 L2 C2 fp2 n2 h2 KM2 acc2 f2 _ _ rfl rfl hJ
      · exact absurd c_533 (by decide)
    · exact absurd rfl c_526
theorem law_write (hT : mj_tab Γ) (hJ : JS S rf L C fp n h KM acc f) (g5 : c1 x5) (g6 : c1 x6) (hR : Γ.ro 3 = (Ln, .inl (mj_z XS))) (hXS : ∀ j, iR (XS j)) (hLn : Ln ≤ 2048) (hi : i + 4 ≤ Ln) (hd : 300 ≤ d) (nx : LN Γ d k0 n0 i P) : mj_Ok Γ d M_Lw_law (k0 + 1) (n0 + 6) 495 [.ref (mj_st + 3), .ref 0, .ref 40, .ref 64, .int (iZ i), x5, x6] [] S P := by
  have hlt := hJ.lt
  have hck := hJ.ck
  have hn1 := hJ.n1
  obtain ⟨hI, hM, h61, hc⟩ := hJ
  obtain ⟨cu, sp, -, hw, ho, -⟩ := id hI
  have ho : S.1 0 = _ := ho
  obtain ⟨-, hL, -, hlc, ⟨El, h39, h39'⟩, ⟨Tl, h40, h40'⟩, -, hn6, hh, hal⟩ := id hM
  have hx1 := hXS (i + 1)
  refine mj_aload_n d_Lw_law_495 rfl ?_
  refine mj_aload_n d_Lw_law_496 rfl ?_
  refine mj_iload d_Lw_law_497 rfl ?_
  refine mz_iconst d_Lw_law_499 ?_
  refine mz_iadd d_Lw_law_500 ?_
  refine mz_irot (j := i + 1) d_Lw_law_501 (by decide) rfl (hR) (by omega) (by omega) ?_ (by omega)
  refine mj_aload_n d_Lw_law_502 rfl ?_
  by_cases q : 0 ≤ XS (i + 1) ∧ XS (i + 1) < acc.length
  · obtain ⟨a, ha⟩ : ∃ a : Nat, XS (i + 1) = a := ⟨(XS (i + 1)).toNat, by omega⟩
    rw [ha]
    refine mj_callSH (k := k0 + 1) (n := n0 + 6) (As := [.ref 0, .int (iZ (a : Nat)), .ref 64]) (st := []) d_Lw_law_503 (h_write_ok (d := 22) (f := f) hw ho (m_IL_write_ok (d := 21) hT hI hlt (i := a) (by omega) (by omega) (by omega)) (fun z1 S1 h1 => ⟨h1.1.w.trans hw, h1.1.at h61 lo_61⟩) (Nat.lt_succ_self _)) ch_write lh_write (by omega) rfl (fun v S3 hv => ?_)
    obtain ⟨z0, rfl, rfl, z1, S1, h1, rfl⟩ := hv
    have fu : mj_fr S1 (mj_up S1 64 (.inl (3, 1, .inr (.inl (vp_updL f 0 (iZ z1).toInt64))))) [64] := mj_fr.up _ _ _
    have e61 : (mj_up S1 64 (.inl (3, 1, .inr (.inl (vp_updL f 0 (iZ z1).toInt64))))).1 64 = .inl (3, 1, .inr (.inl (vp_updL f 0 (iZ z1).toInt64))) := mj_up_self _ _ _
    have ef : vp_updL f 0 (iZ z1).toInt64 0 = (iZ z1).toInt64 := if_pos rfl
    obtain ⟨f1, p, hp, h1b, hI1⟩ := h1
    have hM1 := (hM.lo f1 lo_lt).lo fu (by simp)
    have hI2 := hI1.hi fu (by simp)
    obtain ⟨S3, hS3⟩ : ∃ S3, S3 = mj_up S1 64 (.inl (3, 1, .inr (.inl (vp_updL f 0 (iZ z1).toInt64)))) := ⟨_, rfl⟩
    rw [← hS3] at e61 hM1 hI2 ⊢
    have nx2 := nx.more
    generalize k0 + 1 = k1 at nx2 ⊢
    generalize n0 + 6 = n1 at nx2 ⊢
    obtain ⟨hw1, -, ⟨tr, rs, fo, sg, hst⟩, hlc1, ⟨El1, h391, h391'⟩, ⟨Tl1, h401, h401'⟩, hgb1, -⟩ := id hM1
    have hst0 : S3.1 40 = _ := hst
    refine mz_ist5 d_Lw_law_506 (by unfold mj_c1; simp only [List.all_cons, g5, g6]; rfl) ?_
    refine mj_aload_n d_Lw_law_508 rfl ?_
    refine mj_aload_n d_Lw_law_509 rfl ?_
    refine mj_iload d_Lw_law_510 rfl ?_
    refine mz_iconst d_Lw_law_512 ?_
    refine mz_iadd d_Lw_law_513 ?_
    refine mz_irot (j := i + 1) d_Lw_law_514 (by decide) rfl (hR) (by omega) (by omega) ?_ (by omega)
    rw [ha]
    obtain ⟨K, B, CF, RS, RE, w1, w2, w3⟩ := hp
    refine mz_callV1i (ci := 9) d_Lw_law_515 (m_Mo_write_ok (d := 4) (K := K) (B := B) (CF := CF) (RS := RS) (RE := RE) hM1 (by omega) (i := a) (by omega) (hck a (by omega)) w1 w2 (by omega)) cw_Mo_write lk_Lw_86 rfl rfl (by omega) (by assumption) (by omega) rfl (fun z_515 S_515 h_515 => ?_)
    obtain ⟨f4, hz2, hM4⟩ := h_515
    rw [← w3] at hz2 hM4
    exact law_write_tail (k := 0) (z1 := z1) (show JS S_515 0 p.1 p.2 fp n h KM acc (vp_updL f 0 (iZ z1).toInt64) from ⟨hI2.hi f4 (by simp), hM4, f4.at e61 (by simp), hc⟩) g6 (Or.inl ⟨rfl, rfl, ef, by rw [hz2, h1b]⟩) hd nx2
  · refine mj_callSH (k := k0) (n := n0) (As := [.ref 0, .int (iZ (XS (i + 1))), .ref 64]) (st := []) d_Lw_law_503 (h_write_no (d := 8) hw ho (m_IL_write_no (d := 7) hI hx1 q (by omega)) (Nat.lt_succ_self _)) ch_write lh_write (by omega) rfl (fun v S3 hv => ?_)
    obtain ⟨z0, rfl, rfl, rfl⟩ := hv
    have hM1 : mo_IL (mj_bp S) rf L C fp n h KM acc := hM
    have hI2 : mj_IL (mj_bp S) L C fp n h KM acc := hI
    have e61 : (mj_bp S).1 64 = .inl (3, 1, .inr (.inl f)) := h61
    obtain ⟨S3, hS3⟩ : ∃ S3, S3 = mj_bp S := ⟨_, rfl⟩
    rw [← hS3] at e61 hM1 hI2 ⊢
    obtain ⟨hw1, -, ⟨tr, rs, fo, sg, hst⟩, hlc1, ⟨El1, h391, h391'⟩, ⟨Tl1, h401, h401'⟩, hgb1, -⟩ := id hM1
    have hst0 : S3.1 40 = _ := hst
    refine mz_ist5 d_Lw_law_506 (by unfold mj_c1; simp only [List.all_cons, g5, g6]; rfl) ?_
    refine mj_aload_n d_Lw_law_508 rfl ?_
    refine mj_aload_n d_Lw_law_509 rfl ?_
    refine mj_iload d_Lw_law_510 rfl ?_
    refine mz_iconst d_Lw_law_512 ?_
    refine mz_iadd d_Lw_law_513 ?_
    refine mz_irot (j := i + 1) d_Lw_law_514 (by decide) rfl (hR) (by omega) (by omega) ?_ (by omega)
    refine mz_callV1i (ci := 9) d_Lw_law_515 (m_Mo_write_no (d := 1) hM1 hx1 q (by omega)) cw_Mo_write lk_Lw_86 rfl rfl (by omega) (by assumption) (by omega) rfl (fun z_515 S_515 h_515 => ?_)
    obtain ⟨f4, hM4⟩ := h_515
    exact law_write_tail (k := 1) (z1 := 0) (show JS S_515 1 L C fp n h KM acc f from ⟨hI2.hi f4 (by simp), hM4, f4.at e61 (by simp), hc⟩) g6 (Or.inr ⟨rfl, rfl⟩) hd nx
end LW2
