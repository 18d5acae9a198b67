/-! the reference: a text read, one sign after the other -/
/-- the reference's rows hold what a state of the reading says -/
def psI (S0 S : mj_S) (L : Nat) (wr am hy sr tr rs fo : Int) (t : TS) : Prop := match t with
  | (n, K, _, B, RA, RB, BA, br, _, _, _) => mj_fr S0 S [40, 51, 52, 55, 56, 57] ∧ mo_st S 0 L wr am hy sr tr rs fo n ∧ (∃ K', S.1 51 = .inl (0, 6, .inl (mj_z K')) ∧ ∀ j, j < n → K' j = K j) ∧ (∃ B', S.1 52 = .inl (0, 36, .inl (mj_z B')) ∧ ∀ j, j < 36 → B' j = B j) ∧ (∃ PL, S.1 55 = .inl (0, 60, .inl (mj_z PL)) ∧ ∀ j, j < br → PL j = BA j) ∧ (∃ RA', S.1 56 = .inl (0, 10, .inl (mj_z RA')) ∧ ∀ j, j < 10 → RA' j = RA j) ∧ ∃ RB', S.1 57 = .inl (0, 10, .inl (mj_z RB')) ∧ ∀ j, j < 10 → RA j ≠ -1 → RB' j = RB j
/-- .. or a fault was found at p -/
def psE (S0 S : mj_S) (L : Nat) (p am hy sr tr rs fo : Int) : Prop := mj_fr S0 S [40, 51, 52, 55, 56, 57] ∧ (∃ sg, mo_st S 0 L p am hy sr tr rs fo sg) ∧ ∀ o ∈ [40, 51, 52, 55, 56, 57], 44 ≤ o → o ≤ 63 → mo_ga S o
theorem psI.ga {S0 S : mj_S} {L : Nat} {wr am hy sr tr rs fo : Int} {t : TS} (h : psI S0 S L wr am hy sr tr rs fo t) : ∀ o ∈ [40, 51, 52, 55, 56, 57], 44 ≤ o → o ≤ 63 → mo_ga S o := by
  obtain ⟨n, K, F, B, RA, RB, BA, br, la, rm, at_⟩ := t
  obtain ⟨h1, h2, ⟨K', h3, -⟩, ⟨B', h4, -⟩, ⟨PL, h5, -⟩, ⟨RA', h6, -⟩, RB', h7, -⟩ := h
  intro o ho h1 h2
  simp only [List.mem_cons, List.not_mem_nil, or_false] at ho
  rcases ho with rfl | rfl | rfl | rfl | rfl | rfl
  · omega
  · exact ⟨_, h3⟩
  · exact ⟨_, h4⟩
  · exact ⟨_, h5⟩
  · exact ⟨_, h6⟩
  · exact ⟨_, h7⟩
def psF (t : TS) (ph : Nat) (to : Int) (x6 x7 x8 x9 x10 x11 x12 : Value) : List Value := match t with
  | (_, _, _, _, _, _, _, br, la, _, at_) => [.ref 40, .int (iZ br), .int (iZ ph), .int (iZ la), .int (iZ to), .int (iZ at_), x6, x7, x8, x9, x10, x11, x12]
section PS1
variable {Γ : mj_G} {d L : Nat} {S0 S : mj_S} {C : Nat → Int} {wr am hy sr tr rs fo : Int} {Q : Int → mj_S → Prop}
theorem ps_head {sg : Int} {k : Nat} {P : mj_O → mj_S → Prop} {vd vp vn vt : Int} {x6 x7 x8 x9 x10 x11 x12 : Value} (g6 : c1 x6) (g7 : c1 x7) (g8 : c1 x8) (g9 : c1 x9) (g10 : c1 x10) (g11 : c1 x11) (g12 : c1 x12) (hw : S.2.1 = 65) (hst : mo_st S 0 L wr am hy sr tr rs fo sg) (hl : mj_lc S C) (hL : L ≤ 60) (hk : k < L) (hd : 2 ≤ d)
    (H : mj_Ok Γ d M_Mo_parse 0 0 95 [.ref 40, .int (iZ vd), .int (iZ vp), .int (iZ vn), .int (iZ vt), .int (iZ k), .int (iZ (C k)), .int (iZ (ln_el L C k)), .int (iZ (tbd (C k))), x9, x10, x11, x12] [] S P) :
    mj_Ok Γ d M_Mo_parse 0 0 33 [.ref 40, .int (iZ vd), .int (iZ vp), .int (iZ vn), .int (iZ vt), .int (iZ k), x6, x7, x8, x9, x10, x11, x12] [] S P := by
  have h1 : S.1 40 = _ := hst
  have h2 := hl.1
  have hc := hl.2 k
  unfold tbd at H
  refine mj_iload d_Mo_parse_33 rfl ?_
  refine mj_aload_n d_Mo_parse_35 rfl ?_
  refine mj_get (ci := 9) (j := 1) d_Mo_parse_36 rfl w_Mo_88 (by decide) (by omega) (by assumption) rfl ?_
  refine mz_icmp_ge 555 d_Mo_parse_39 (by decide) (by omega) (by omega) (fun c_39 => ?_) (fun c_39 => ?_)
  · omega
  · refine mj_aload_n d_Mo_parse_42 rfl ?_
    refine mj_get (ci := 9) (j := 2) d_Mo_parse_43 rfl w_Mo_7 (by decide) (by omega) (by assumption) rfl ?_
    refine mj_iload d_Mo_parse_46 rfl ?_
    refine mz_cald (j := k) d_Mo_parse_48 (by omega) (by assumption) (by omega) (by omega) ?_
    refine mz_ist6 d_Mo_parse_49 (by unfold mj_c1; simp only [List.all_cons, g6, g7, g8, g9, g10, g11, g12]; rfl) ?_
    refine mj_aload_n d_Mo_parse_51 rfl ?_
    refine mj_iload d_Mo_parse_52 rfl ?_
    refine mz_callV1i (ci := 9) d_Mo_parse_54 (m_Mo_elementAt (d := 1) hw hst hl hL (by omega) (by omega)) cw_Mo_elementAt lk_Mo_99 rfl rfl (by omega) (by assumption) (by omega) rfl (fun z_54 S_54 h_54 => ?_)
    obtain ⟨e54, rfl⟩ := h_54
    rw [e54]
    refine mz_ist7 d_Mo_parse_57 (by unfold mj_c1; simp only [List.all_cons, g7, g8, g9, g10, g11, g12]; rfl) ?_
    refine mj_iload d_Mo_parse_59 rfl ?_
    refine mz_bipush d_Mo_parse_61 (by decide) ?_
    refine mz_icmp_ne 70 d_Mo_parse_63 (by decide) (by omega) (by omega) (fun c_63 => ?_) (fun c_63 => ?_)
    · rw [if_neg c_63] at H
      refine mj_iload d_Mo_parse_70 rfl ?_
      refine mz_bipush d_Mo_parse_72 (by decide) ?_
      refine mz_icmp_ne 81 d_Mo_parse_74 (by decide) (by omega) (by omega) (fun c_74 => ?_) (fun c_74 => ?_)
      · rw [if_neg c_74] at H
        refine mj_iload d_Mo_parse_81 rfl ?_
        refine mz_bipush d_Mo_parse_83 (by decide) ?_
        refine mz_icmp_ne 92 d_Mo_parse_85 (by decide) (by omega) (by omega) (fun c_85 => ?_) (fun c_85 => ?_)
        · rw [if_neg c_85] at H
          refine mz_iconst d_Mo_parse_92 ?_
          refine mz_ist8 d_Mo_parse_93 (by unfold mj_c1; simp only [List.all_cons, g8, g9, g10, g11, g12]; rfl) ?_
          exact H
        · rw [if_pos c_85] at H
          refine mz_iconst d_Mo_parse_88 ?_
          refine mj_goto 93 d_Mo_parse_89 (by decide) ?_
          refine mz_ist8 d_Mo_parse_93 (by unfold mj_c1; simp only [List.all_cons, g8, g9, g10, g11, g12]; rfl) ?_
          exact H
      · rw [if_pos c_74] at H
        refine mz_iconst d_Mo_parse_77 ?_
        refine mj_goto 93 d_Mo_parse_78 (by decide) ?_
        refine mz_ist8 d_Mo_parse_93 (by unfold mj_c1; simp only [List.all_cons, g8, g9, g10, g11, g12]; rfl) ?_
        exact H
    · rw [if_pos c_63] at H
      refine mz_iconst d_Mo_parse_66 ?_
      refine mj_goto 93 d_Mo_parse_67 (by decide) ?_
      refine mz_ist8 d_Mo_parse_93 (by unfold mj_c1; simp only [List.all_cons, g8, g9, g10, g11, g12]; rfl) ?_
      exact H
/-- a fault: a sign that may not stand here -/
theorem ps_sign {t : TS} {k : Nat} {vd vp vn vt x6 x7 x8 x9 x10 x11 x12 : Value} (hw0 : S0.2.1 = 65) (h : psI S0 S L wr am hy sr tr rs fo t) (hd : 1 ≤ d) (Hf : ∀ S', psE S0 S' L k am hy sr tr rs fo → Q (-2) S') :
    mj_Ok Γ d M_Mo_parse 0 0 543 [.ref 40, vd, vp, vn, vt, .int (iZ k), x6, x7, x8, x9, x10, x11, x12] [] S (mj_I Q) := by
  have hga := h.ga
  obtain ⟨n, K, F, B, RA, RB, BA, br, la, rm, at_⟩ := t
  obtain ⟨f1, hst, -⟩ := h
  have h1 : S.1 40 = _ := hst
  have hw := f1.w.trans hw0
  refine mj_aload_n d_Mo_parse_543 rfl ?_
  refine mz_bipush d_Mo_parse_544 (by decide) ?_
  refine mj_iload d_Mo_parse_546 rfl ?_
  refine mz_callV2i (ci := 9) d_Mo_parse_548 (m_Mo_fault (d := 0) hw hst) cw_Mo_fault lk_Mo_103 rfl rfl (by omega) (by assumption) (by omega) rfl (fun z_548 S_548 h_548 => ?_)
  obtain ⟨q1, rfl, q3⟩ := h_548
  refine mz_iret d_Mo_parse_551 rfl (rfl) ?_
  refine Hf _ ⟨f1.tr q1 (by simp) (by simp), ⟨_, q3⟩, fun o ho h1 h2 => ?_⟩
  obtain ⟨A, hA⟩ := hga o ho h1 h2
  exact ⟨A, q1.at hA (by simp; omega)⟩
/-- an atom's sign -/
theorem ps_atom {n br at_ ph : Nat} {K F B RA RB BA : Nat → Int} {la : Int} {rm : Bool} {to : Int} {e : Nat} {x6 x8 x9 x10 x11 x12 : Value} (g6 : c1 x6) (g8 : c1 x8) (g9 : c1 x9) (g10 : c1 x10) (g11 : c1 x11) (g12 : c1 x12) (hw0 : S0.2.1 = 65) (hL : L ≤ 60) (hto : 0 ≤ to ∧ to ≤ 3) (he : ln_el L C at_ = e) (he9 : e < 9) (hn : n ≤ 6) (hla : la = -1 ∨ (0 ≤ la ∧ la < n)) (hat : at_ ≤ 60) (h : psI S0 S L wr am hy sr tr rs fo (n, K, F, B, RA, RB, BA, br, la, rm, at_)) (hd : 1 ≤ d)
    (Hf : (tAtom L C to (n, K, F, B, RA, RB, BA, br, la, rm, at_)).1 ≠ -1 → ∀ S', psE S0 S' L (tAt (tAtom L C to (n, K, F, B, RA, RB, BA, br, la, rm, at_)).2 : Nat) am hy sr tr rs fo → Q (tAtom L C to (n, K, F, B, RA, RB, BA, br, la, rm, at_)).1 S')
    (Hok : (tAtom L C to (n, K, F, B, RA, RB, BA, br, la, rm, at_)).1 = -1 → ∀ S' y6 y7 y8 y9 y10 y11 y12, c1 y6 → c1 y7 → c1 y8 → c1 y9 → c1 y10 → c1 y11 → c1 y12 → psI S0 S' L wr am hy sr tr rs fo (tAtom L C to (n, K, F, B, RA, RB, BA, br, la, rm, at_)).2 → mj_Ok Γ d M_Mo_parse 0 0 33 (psF (tAtom L C to (n, K, F, B, RA, RB, BA, br, la, rm, at_)).2 1 0 y6 y7 y8 y9 y10 y11 y12) [] S' (mj_I Q)) :
    mj_Ok Γ d M_Mo_parse 0 0 107 [.ref 40, .int (iZ br), .int (iZ ph), .int (iZ la), .int (iZ to), .int (iZ at_), x6, .int (iZ e), x8, x9, x10, x11, x12] [] S (mj_I Q) := by
  have hga := h.ga
  obtain ⟨f1, hst, ⟨K', h3, h3'⟩, ⟨B', h4, h4'⟩, ⟨PL, h5, h5'⟩, ⟨RA', h6, h6'⟩, RB', h7, h7'⟩ := h
  have h1 : S.1 40 = _ := hst
  have hw := f1.w.trans hw0
  have het : (ln_el L C (at_ : Int)).toNat = e := by omega
  refine mj_aload_n d_Mo_parse_107 rfl ?_
  refine mj_get (ci := 9) (j := 19) d_Mo_parse_108 rfl w_Mo_167 (by decide) (by omega) (by assumption) rfl ?_
  refine mz_bipush d_Mo_parse_111 (by decide) ?_
  refine mz_icmp_ne 125 d_Mo_parse_113 (by decide) (by omega) (by omega) (fun c_113 => ?_) (fun c_113 => ?_)
  · have hR : tAtom L C to (n, K, F, B, RA, RB, BA, br, la, rm, at_) = (-1, (n + 1, va_up K n (ln_el L C at_), if la = -1 then va_up F n (mj_VAL e) else mbind (va_up F n (mj_VAL e)) B la.toNat n (max to 1), if la = -1 then B else bset B la.toNat n (max to 1), RA, RB, BA, br, (n : Int), true, at_ + if mj_SND e = 0 then 1 else 2)) := by
      unfold tAtom
      simp only []
      rw [if_neg (by omega), if_neg (by omega), het]
    rw [hR] at Hok
    have hsz : (at_ : Int) + (if mj_SND e = 0 then 1 else 2) = ((at_ + if mj_SND e = 0 then 1 else 2 : Nat) : Int) := by split <;> omega
    -- behind the bonds
    have t190 : ∀ (S2 : mj_S) (B2 : Nat → Int), mj_fr S S2 [51, 52] → S2.1 51 = .inl (0, 6, .inl (mj_z (va_up K' n (e : Int)))) → S2.1 52 = .inl (0, 36, .inl (mj_z B2)) → (∀ j, j < 36 → B2 j = (if la = -1 then B else bset B la.toNat n (max to 1)) j) → mj_Ok Γ d M_Mo_parse 0 0 190 [.ref 40, .int (iZ br), .int (iZ ph), .int (iZ la), .int (iZ to), .int (iZ at_), x6, .int (iZ e), x8, x9, x10, x11, x12] [] S2 (mj_I Q) := by
      intro S2 B2 f2 k2 b2 b2'
      have h12 := f2.at h1 (by simp)
      have hw2 := f2.w.trans hw
      refine mj_aload_n d_Mo_parse_190 rfl ?_
      refine mj_get (ci := 9) (j := 19) d_Mo_parse_191 rfl w_Mo_167 (by decide) (by omega) (by assumption) rfl ?_
      refine mz_ist3 d_Mo_parse_194 (by unfold mj_c1; simp only [List.all_cons, g6, g8, g9, g10, g11, g12]; rfl) ?_
      refine mj_aload_n d_Mo_parse_195 rfl ?_
      refine mj_dup d_Mo_parse_196 rfl ?_
      refine mj_get (ci := 9) (j := 19) d_Mo_parse_197 rfl w_Mo_167 (by decide) (by omega) (by assumption) rfl ?_
      refine mz_iconst d_Mo_parse_200 ?_
      refine mz_iadd d_Mo_parse_201 ?_
      refine mz_put (ci := 9) (j := 19) d_Mo_parse_202 rfl w_Mo_167 (by decide) rfl (by omega) (by assumption) (Nat.le_of_ble_eq_true rfl) (mj_fit_int _) rfl (fun S_202 w_202 e_202 f_202 => ?_)
      refine mz_iconst d_Mo_parse_205 ?_
      refine mz_ist4 d_Mo_parse_206 (by unfold mj_c1; simp only [List.all_cons, g6, g8, g9, g10, g11, g12]; rfl) ?_
      refine mz_iconst d_Mo_parse_208 ?_
      refine mz_ist2 d_Mo_parse_209 (by unfold mj_c1; simp only [List.all_cons, g6, g8, g9, g10, g11, g12]; rfl) ?_
      have f3 : mj_fr S S_202 [40, 51, 52] := f2.tr f_202 (by simp) (by simp)
      refine mj_iload d_Mo_parse_210 rfl ?_
      refine mj_iload d_Mo_parse_212 rfl ?_
      refine mz_callS1i d_Mo_parse_214 (m_Mo_signSize (d := 0) (by omega)) cw_Mo_signSize lk_Mo_107 (by omega) rfl (fun z_214 S_214 h_214 => ?_)
      obtain ⟨e214, rfl⟩ := h_214
      rw [e214]
      refine mz_iadd d_Mo_parse_217 ?_
      rw [hsz]
      refine mz_ist5 d_Mo_parse_218 (by unfold mj_c1; simp only [List.all_cons, g6, g8, g9, g10, g11, g12]; rfl) ?_
      refine mj_goto 552 d_Mo_parse_220 (by decide) ?_
      refine mj_goto 33 d_Mo_parse_552 (by decide) ?_
      refine Hok rfl S_202 _ _ _ _ _ _ _ g6 rfl g8 g9 g10 g11 g12 ⟨f1.tr f3 (by simp) (by simp), ?_, ⟨_, f_202.at k2 (by simp), fun j hj => ?_⟩, ⟨B2, f_202.at b2 (by simp), b2'⟩, ⟨PL, f3.at h5 (by simp), h5'⟩, ⟨RA', f3.at h6 (by simp), h6'⟩, RB', f3.at h7 (by simp), h7'⟩
      · have e1 : ((n + 1 : Nat) : Int) = (n : Int) + 1 := by omega
        rw [e1]
        exact e_202
      · by_cases q : j = n
        · subst q; rw [va_up_self, va_up_self, he]
        · rw [va_up_ne _ _ q, va_up_ne _ _ q]; exact h3' j (by omega)
    refine mj_aload_n d_Mo_parse_125 rfl ?_
    refine mj_get (ci := 9) (j := 20) d_Mo_parse_126 rfl w_Mo_46 (by decide) (by omega) (by assumption) rfl ?_
    refine mj_aload_n d_Mo_parse_129 rfl ?_
    refine mj_get (ci := 9) (j := 19) d_Mo_parse_130 rfl w_Mo_167 (by decide) (by omega) (by assumption) rfl ?_
    refine mj_iload d_Mo_parse_133 rfl ?_
    refine mz_iast (j := n) d_Mo_parse_135 (by omega) (by assumption) (by omega) (by omega) (fun S_135 w_135 e_135 f_135 => ?_)
    have h1' := f_135.at h1 (by simp)
    have h4 := f_135.at h4 (by simp)
    refine mj_iload_n d_Mo_parse_136 rfl ?_
    refine mz_if_lt 190 d_Mo_parse_137 (by decide) (by omega) (fun c_137 => ?_) (fun c_137 => ?_)
    · exact t190 S_135 B' (f_135.tr (mj_fr.rf _ []) (by simp) (by simp)) e_135 h4 (fun j hj => by rw [if_pos (by omega)]; exact h4' j hj)
    · obtain ⟨l, rfl⟩ : ∃ l : Nat, la = l := ⟨la.toNat, by omega⟩
      have bs : ∀ (v : Int), v = max to 1 → ∀ j, j < 36 → va_up (va_up B' (l * 6 + n) v) (n * 6 + l) v j = (if (l : Int) = -1 then B else bset B (l : Int).toNat n (max to 1)) j := by
        intro v hv j hj
        rw [if_neg (by omega), Int.toNat_natCast]
        unfold bset
        rw [← hv]
        by_cases q1 : j = n * 6 + l
        · subst q1; rw [va_up_self, va_up_self]
        · rw [va_up_ne _ _ q1, va_up_ne _ _ q1]
          by_cases q2 : j = l * 6 + n
          · subst q2; rw [va_up_self, va_up_self]
          · rw [va_up_ne _ _ q2, va_up_ne _ _ q2]; exact h4' j hj
      by_cases t0 : to = 0
      · refine mj_aload_n d_Mo_parse_140 rfl ?_
        refine mj_get (ci := 9) (j := 21) d_Mo_parse_141 rfl w_Mo_49 (by decide) (by omega) (by assumption) rfl ?_
        refine mz_bipush d_Mo_parse_144 (by decide) ?_
        refine mj_iload_n d_Mo_parse_146 rfl ?_
        refine mz_imul d_Mo_parse_147 ?_
        refine mj_aload_n d_Mo_parse_148 rfl ?_
        refine mj_get (ci := 9) (j := 19) d_Mo_parse_149 rfl w_Mo_167 (by decide) (by omega) (by assumption) rfl ?_
        refine mz_iadd d_Mo_parse_152 ?_
        refine mj_iload d_Mo_parse_153 rfl ?_
        refine mz_if_ne 162 d_Mo_parse_155 (by decide) (by omega) (fun c_155 => ?_) (fun c_155 => ?_)
        · omega
        · refine mz_iconst d_Mo_parse_158 ?_
          refine mj_goto 164 d_Mo_parse_159 (by decide) ?_
          refine mz_iast (j := l * 6 + n) d_Mo_parse_164 (by omega) (by assumption) (by omega) (by omega) (fun S_164 w_164 e_164 f_164 => ?_)
          have h1' := f_164.at h1' (by simp)
          refine mj_aload_n d_Mo_parse_165 rfl ?_
          refine mj_get (ci := 9) (j := 21) d_Mo_parse_166 rfl w_Mo_49 (by decide) (by omega) (by assumption) rfl ?_
          refine mz_bipush d_Mo_parse_169 (by decide) ?_
          refine mj_aload_n d_Mo_parse_171 rfl ?_
          refine mj_get (ci := 9) (j := 19) d_Mo_parse_172 rfl w_Mo_167 (by decide) (by omega) (by assumption) rfl ?_
          refine mz_imul d_Mo_parse_175 ?_
          refine mj_iload_n d_Mo_parse_176 rfl ?_
          refine mz_iadd d_Mo_parse_177 ?_
          refine mj_iload d_Mo_parse_178 rfl ?_
          refine mz_if_ne 187 d_Mo_parse_180 (by decide) (by omega) (fun c_180 => ?_) (fun c_180 => ?_)
          · omega
          · refine mz_iconst d_Mo_parse_183 ?_
            refine mj_goto 189 d_Mo_parse_184 (by decide) ?_
            refine mz_iast (j := n * 6 + l) d_Mo_parse_189 (by omega) (by assumption) (by omega) (by omega) (fun S_189 w_189 e_189 f_189 => ?_)
            exact t190 S_189 _ ((f_135.tr f_164 (l := [51, 52]) (by simp) (by simp)).tr f_189 (by simp) (by simp)) (f_189.at (f_164.at e_135 (by simp)) (by simp)) e_189 (bs 1 (by omega))
      · refine mj_aload_n d_Mo_parse_140 rfl ?_
        refine mj_get (ci := 9) (j := 21) d_Mo_parse_141 rfl w_Mo_49 (by decide) (by omega) (by assumption) rfl ?_
        refine mz_bipush d_Mo_parse_144 (by decide) ?_
        refine mj_iload_n d_Mo_parse_146 rfl ?_
        refine mz_imul d_Mo_parse_147 ?_
        refine mj_aload_n d_Mo_parse_148 rfl ?_
        refine mj_get (ci := 9) (j := 19) d_Mo_parse_149 rfl w_Mo_167 (by decide) (by omega) (by assumption) rfl ?_
        refine mz_iadd d_Mo_parse_152 ?_
        refine mj_iload d_Mo_parse_153 rfl ?_
        refine mz_if_ne 162 d_Mo_parse_155 (by decide) (by omega) (fun c_155 => ?_) (fun c_155 => ?_)
        · refine mj_iload d_Mo_parse_162 rfl ?_
          refine mz_iast (j := l * 6 + n) d_Mo_parse_164 (by omega) (by assumption) (by omega) (by omega) (fun S_164 w_164 e_164 f_164 => ?_)
          have h1' := f_164.at h1' (by simp)
          refine mj_aload_n d_Mo_parse_165 rfl ?_
          refine mj_get (ci := 9) (j := 21) d_Mo_parse_166 rfl w_Mo_49 (by decide) (by omega) (by assumption) rfl ?_
          refine mz_bipush d_Mo_parse_169 (by decide) ?_
          refine mj_aload_n d_Mo_parse_171 rfl ?_
          refine mj_get (ci := 9) (j := 19) d_Mo_parse_172 rfl w_Mo_167 (by decide) (by omega) (by assumption) rfl ?_
          refine mz_imul d_Mo_parse_175 ?_
          refine mj_iload_n d_Mo_parse_176 rfl ?_
          refine mz_iadd d_Mo_parse_177 ?_
          refine mj_iload d_Mo_parse_178 rfl ?_
          refine mz_if_ne 187 d_Mo_parse_180 (by decide) (by omega) (fun c_180 => ?_) (fun c_180 => ?_)
          · refine mj_iload d_Mo_parse_187 rfl ?_
            refine mz_iast (j := n * 6 + l) d_Mo_parse_189 (by omega) (by assumption) (by omega) (by omega) (fun S_189 w_189 e_189 f_189 => ?_)
            exact t190 S_189 _ ((f_135.tr f_164 (l := [51, 52]) (by simp) (by simp)).tr f_189 (by simp) (by simp)) (f_189.at (f_164.at e_135 (by simp)) (by simp)) e_189 (bs to (by omega))
          · omega
        · omega
  · have hR : tAtom L C to (n, K, F, B, RA, RB, BA, br, la, rm, at_) = (-5, (n, K, F, B, RA, RB, BA, br, la, rm, at_)) := by
      unfold tAtom
      simp only []
      rw [if_neg (by omega), if_pos (by omega)]
    rw [hR] at Hf
    refine mj_aload_n d_Mo_parse_116 rfl ?_
    refine mz_bipush d_Mo_parse_117 (by decide) ?_
    refine mj_iload d_Mo_parse_119 rfl ?_
    refine mz_callV2i (ci := 9) d_Mo_parse_121 (m_Mo_fault (d := 0) hw hst) cw_Mo_fault lk_Mo_103 rfl rfl (by omega) (by assumption) (by omega) rfl (fun z_121 S_121 h_121 => ?_)
    obtain ⟨q1, rfl, q3⟩ := h_121
    refine mz_iret d_Mo_parse_124 rfl (rfl) ?_
    refine Hf (by simp) _ ⟨f1.tr q1 (by simp) (by simp), ⟨_, q3⟩, fun o ho h1 h2 => ?_⟩
    obtain ⟨A, hA⟩ := hga o ho h1 h2
    exact ⟨A, q1.at hA (by simp; omega)⟩
end PS1
