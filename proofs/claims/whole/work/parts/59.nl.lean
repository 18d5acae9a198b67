/-! the reference: a molecule's number in the list -/
section NL
variable {Γ : mj_G} {d L n h n2 : Nat} {S : mj_S} {wr tr rs fo : Int} {KM KM2 BN : Nat → Nat} {acc : List Nat} {F B T El Sg : Nat → Int}
theorem m_Mo_numberInList (hw : S.2.1 = 65) (hst : mo_st S 0 L wr n h acc.length tr rs fo n2) (h39 : S.1 42 = .inl (0, 6, .inl (mj_z El))) (hKW : ∀ j, j < n → El j = KM j ∧ KM j < 9) (h40 : S.1 43 = .inl (0, 7500, .inl (mj_z T))) (hT : frL T acc) (hal : acc.length ≤ 500) (hck : ∀ i, i < acc.length → ∃ cd : Nat → Nat, acc.getD i 0 = pk cd (pr n 0) ∧ ∀ j, j < pr n 0 → cd j < 4) (h48 : S.1 51 = .inl (0, 6, .inl (mj_z Sg))) (hK2 : ∀ j, j < n2 → Sg j = KM2 j ∧ KM2 j < 9) (h49 : S.1 52 = .inl (0, 36, .inl (mj_z B))) (hBN : ∀ j, j < 36 → B j = BN j ∧ BN j < 4) (hgb : mo_gb S) (hn : n ≤ 6) (hn2 : 1 ≤ n2 ∧ n2 ≤ 6) (hh : h ≤ 1000) (hF : ∀ a, a < n2 → mj_sum (fun y => B (a * 6 + y)) n2 = mj_VAL (KM2 a) - F a) (hFr : ∀ a, a < n2 → -1000 ≤ F a ∧ F a ≤ 1000) (hd : 3 ≤ d) :
    mj_Met Γ d y_Mo_numberInList M_Mo_numberInList [.ref 40] S 0 0 (mj_I fun z S' => mj_fr S S' [49, 50, 53] ∧ (∀ o ∈ [49, 50, 53], 44 ≤ o → o ≤ 63 → mo_ga S' o) ∧ mj_inP n h KM acc n2 F KM2 BN z) := by
  have h1 : S.1 40 = _ := hst
  obtain ⟨Q, hQ⟩ : ∃ Q : Int → mj_S → Prop, Q = (fun (z : Int) (S' : mj_S) => mj_fr S S' [49, 50, 53] ∧ (∀ o ∈ [49, 50, 53], 44 ≤ o → o ≤ 63 → mo_ga S' o) ∧ mj_inP n h KM acc n2 F KM2 BN z) := ⟨_, rfl⟩
  rw [← hQ]
  obtain ⟨Nb0, h46⟩ := hgb.1 49 (by omega) (by omega)
  have h46 : S.1 49 = .inl (0, 7, .inl (mj_z Nb0)) := h46
  obtain ⟨T0, h47⟩ := hgb.1 50 (by omega) (by omega)
  have h47 : S.1 50 = .inl (2, 6, .inl (mj_z T0)) := h47
  obtain ⟨Bs0, h50⟩ := hgb.1 53 (by omega) (by omega)
  have h50 : S.1 53 = .inl (0, 15, .inl (mj_z Bs0)) := h50
  have ga : ∀ S' : mj_S, mj_fr S S' [53] → (∃ Bs, S'.1 53 = .inl (0, 15, .inl (mj_z Bs))) → ∀ o ∈ [49, 50, 53], 44 ≤ o → o ≤ 63 → mo_ga S' o := by
    intro S' f' ⟨Bs, b1⟩ o ho o1 o2
    simp only [List.mem_cons, List.not_mem_nil, or_false] at ho
    rcases ho with rfl | rfl | rfl
    · exact ⟨_, f'.at h46 (by simp)⟩
    · exact ⟨_, f'.at h47 (by simp)⟩
    · exact ⟨_, b1⟩
  refine mj_Met.of (by decide) ⟨rfl, rfl⟩ rfl rfl rfl ?_
  refine mj_aload_n d_Mo_numberInList_0 rfl ?_
  refine mj_get (ci := 9) (j := 19) d_Mo_numberInList_1 rfl w_Mo_167 (by decide) (by omega) (by assumption) rfl ?_
  refine mj_aload_n d_Mo_numberInList_4 rfl ?_
  refine mj_get (ci := 9) (j := 4) d_Mo_numberInList_5 rfl w_Mo_129 (by decide) (by omega) (by assumption) rfl ?_
  refine mz_icmp_eq 13 d_Mo_numberInList_8 (by decide) (by omega) (by omega) (fun c_8 => ?_) (fun c_8 => ?_)
  · have e12 : n2 = n := by omega
    subst e12
    refine mz_iconst d_Mo_numberInList_13 ?_
    refine mz_ist1 d_Mo_numberInList_14 (rfl) ?_
    refine mz_iconst d_Mo_numberInList_15 ?_
    refine mz_ist2 d_Mo_numberInList_16 (rfl) ?_
    have hsr : ∀ m, m ≤ n2 → -(1000 * (m : Int)) ≤ mj_sum F m ∧ mj_sum F m ≤ 1000 * m := by
      intro m hm
      have := mj_sum_r (F := F) (b := 1000) (by decide) m (fun j hj => hFr j (by omega))
      omega
    have hsn := hsr n2 (Nat.le_refl _)
    -- behind the sums: the row is cleared
    have clear_ : ∀ (q j : Nat) (S2 : mj_S) (Bs : Nat → Int), j + q = 15 → mj_fr S S2 [53] → S2.1 53 = .inl (0, 15, .inl (mj_z Bs)) → (∀ i, i < j → Bs i = -1) → mj_Ok Γ d M_Mo_numberInList 0 0 51 [.ref 40, .int (iZ (mj_sum F n2)), .int (iZ j), .retAddr 0, .retAddr 0, .retAddr 0] [] S2 (mj_I Q) := by
      intro q
      induction q with
      | zero =>
        intro j S2 Bs hj f2 b1 b2
        have : j = 15 := by omega
        subst this
        have h12 := f2.at h1 (by simp)
        have hw2 := f2.w.trans hw
        have no : ¬ (n2 = n2 ∧ (h : Int) = mj_sum F n2 ∧ ∀ j, j < n2 → mj_cnt (fun i => (KM2 i : Int)) (KM j) n2 = mj_cnt (fun i => (KM i : Int)) (KM j) n2) → ∀ S3, mj_fr S S3 [49, 50, 53] → (∀ o ∈ [49, 50, 53], 44 ≤ o → o ≤ 63 → mo_ga S3 o) → mj_Ok Γ d M_Mo_numberInList 0 0 85 [.ref 40, .int (iZ (mj_sum F n2)), .int (iZ 15), .retAddr 0, .retAddr 0, .retAddr 0] [] S3 (mj_I Q) := by
          intro hno S3 f3 g3
          refine mz_iconst d_Mo_numberInList_85 ?_
          refine mz_iret d_Mo_numberInList_86 rfl (rfl) ?_
          rw [hQ]
          exact ⟨f3, g3, Or.inl ⟨hno, rfl⟩⟩
        refine mj_iload_n d_Mo_numberInList_51 rfl ?_
        refine mz_bipush d_Mo_numberInList_52 (by decide) ?_
        refine mz_icmp_ge 70 d_Mo_numberInList_54 (by decide) (by omega) (by omega) (fun c_54 => ?_) (fun c_54 => ?_)
        · refine mj_iload_n d_Mo_numberInList_70 rfl ?_
          refine mj_aload_n d_Mo_numberInList_71 rfl ?_
          refine mj_get (ci := 9) (j := 5) d_Mo_numberInList_72 rfl w_Mo_132 (by decide) (by omega) (by assumption) rfl ?_
          refine mz_icmp_ne 85 d_Mo_numberInList_75 (by decide) (by omega) (by omega) (fun c_75 => ?_) (fun c_75 => ?_)
          · exact no (fun z => by omega) S2 (f2.tr (mj_fr.rf _ []) (by simp) (by simp)) (ga S2 f2 ⟨_, b1⟩)
          · refine mj_aload_n d_Mo_numberInList_78 rfl ?_
            refine mz_callV0i (ci := 9) d_Mo_numberInList_79 (m_Mo_greatest (d := 2) (n := n2) (KM2 := KM2) (KW := KM) (B := B) hw2 (f2.at hst (by simp)) (f2.at h46 (by simp)) (f2.at h47 (by simp)) (f2.at h48 (by simp)) (f2.at h39 (by simp)) (f2.at h49 (by simp)) b1 hn (by omega) hK2 hKW (fun j hj => by have := hBN j hj; omega) b2 (by omega)) cw_Mo_greatest lk_Mo_183 rfl rfl (by omega) (by assumption) (by omega) rfl (fun z_79 S_79 h_79 => ?_)
            obtain ⟨hz, f3, ⟨Nb3, n3, -⟩, ⟨T3, t3, -⟩, Bz, b3, b4⟩ := h_79
            have f4 : mj_fr S S_79 [49, 50, 53] := f2.tr f3 (by simp) (by simp)
            have ga4 : ∀ o ∈ [49, 50, 53], 44 ≤ o → o ≤ 63 → mo_ga S_79 o := by
              intro o ho o1 o2
              simp only [List.mem_cons, List.not_mem_nil, or_false] at ho
              rcases ho with rfl | rfl | rfl
              · exact ⟨_, n3⟩
              · exact ⟨_, t3⟩
              · exact ⟨_, b3⟩
            have hgi := gm_iff (n := n2) (KM2 := KM2) (KW := KM) (B := B)
            have hgc := gm_ch (n := n2) (P := pr n2 0) (KM2 := KM2) (KW := KM) (BN := BN) (B := B) hn rfl hBN n2 0 (fun _ => 0) (fun _ => false) (0, 0) (false, fun _ => -1) (by omega) (fun j hj => absurd hj (Nat.not_lt_zero j)) (Or.inl ⟨rfl, rfl, fun _ _ => rfl⟩)
            have e0 : pk (ndN BN (fun _ => 0)) (pr 0 0) = 0 := by show pq _ 0 * _ = 0; rw [pq, Nat.zero_mul]
            rw [e0] at hgc
            obtain ⟨gm, hgm⟩ : ∃ gm, gm = gmI n2 KM2 KM B n2 0 (fun _ => 0) (fun _ => false) (false, fun _ => -1) := ⟨_, rfl⟩
            rw [← hgm] at hz b4 hgi hgc
            by_cases g1 : gm.1 = true
            · rw [g1, if_pos rfl] at hz
              subst hz
              have hall : n2 = n2 ∧ (h : Int) = mj_sum F n2 ∧ ∀ j, j < n2 → mj_cnt (fun i => (KM2 i : Int)) (KM j) n2 = mj_cnt (fun i => (KM i : Int)) (KM j) n2 := ⟨rfl, by omega, hgi.mp g1⟩
              obtain ⟨cd, cd1, cd2, cd3⟩ : ∃ cd : Nat → Nat, (∀ j, j < pr n2 0 → cd j < 4) ∧ (chI n2 KM2 BN KM n2 0 0 (fun _ => 0) (fun _ => false) (0, 0)).1 = pk cd (pr n2 0) ∧ ∀ p, p < pr n2 0 → gm.2 p = cd p := by
                rcases hgc with ⟨z, _⟩ | ⟨_, z⟩
                · rw [g1] at z; exact absurd z (by decide)
                · exact z
              have P15 := (pr_n0 n2 hn).1
              have h13 := f4.at h1 (by simp)
              have h403 := f4.at h40 (by simp)
              have hw3 := f4.w.trans hw
              have hPi : (n2 : Int) * ((n2 : Int) - 1) / 2 = (pr n2 0 : Nat) ∧ 0 ≤ (n2 : Int) * ((n2 : Int) - 1) ∧ (n2 : Int) * ((n2 : Int) - 1) ≤ 30 := (show ∀ a : Nat, a < 7 → 1 ≤ a → (a : Int) * ((a : Int) - 1) / 2 = (pr a 0 : Nat) ∧ 0 ≤ (a : Int) * ((a : Int) - 1) ∧ (a : Int) * ((a : Int) - 1) ≤ 30 by decide) n2 (by omega) hn2.1
              have same : ∀ i, i < acc.length → (acc.getD i 0 = pk cd (pr n2 0) ↔ ∀ p, p < pr n2 0 → T (15 * i + p) = cd p) := by
                intro i hi
                obtain ⟨ci, c1', c2'⟩ := hck i hi
                have dgi : ∀ p, p < pr n2 0 → T (15 * i + p) = ci p := by
                  intro p hp
                  rw [hT i hi p (by omega), c1', dg_pk P15 (by omega) c2', if_pos hp]
                constructor
                · intro e p hp
                  have e1 := hT i hi p (by omega)
                  rw [e, dg_pk P15 (by omega) cd1, if_pos hp] at e1
                  exact e1
                · intro e
                  rw [c1']
                  exact pk_congr _ (fun j hj => by have := dgi j hj; have := e j hj; omega)
              have find : ∀ (q i : Nat) (x4 x5 : Value), c1 x4 → c1 x5 → i + q = acc.length → (∀ j, j < i → acc.getD j 0 ≠ pk cd (pr n2 0)) → mj_Ok Γ d M_Mo_numberInList 0 0 103 [.ref 40, .int (iZ (mj_sum F n2)), .int (iZ (pr n2 0 : Nat)), .int (iZ i), x4, x5] [] S_79 (mj_I Q) := by
                intro q
                induction q with
                | zero =>
                  intro i x4 x5 g4 g5 hi hno
                  have : i = acc.length := by omega
                  subst this
                  refine mj_iload_n d_Mo_numberInList_103 rfl ?_
                  refine mj_aload_n d_Mo_numberInList_104 rfl ?_
                  refine mj_get (ci := 9) (j := 7) d_Mo_numberInList_105 rfl w_Mo_135 (by decide) (by omega) (by assumption) rfl ?_
                  refine mz_icmp_ge 176 d_Mo_numberInList_108 (by decide) (by omega) (by omega) (fun c_108 => ?_) (fun c_108 => ?_)
                  · refine mz_iconst d_Mo_numberInList_176 ?_
                    refine mz_iret d_Mo_numberInList_177 rfl (rfl) ?_
                    rw [hQ]
                    refine ⟨f4, ga4, Or.inr ⟨hall, ?_⟩⟩
                    rw [cd2]
                    exact Or.inr ⟨rfl, hno⟩
                  · omega
                | succ q ih =>
                  intro i x4 x5 g4 g5 hi hno
                  have cmp : ∀ (r c : Nat) (sm : Int), c + r = pr n2 0 → (sm = 1 ∧ (∀ p, p < c → T (15 * i + p) = cd p)) ∨ (sm = 0 ∧ ∃ p, p < c ∧ T (15 * i + p) ≠ cd p) → mj_Ok Γ d M_Mo_numberInList 0 0 117 [.ref 40, .int (iZ (mj_sum F n2)), .int (iZ (pr n2 0 : Nat)), .int (iZ i), .int (iZ sm), .int (iZ c)] [] S_79 (mj_I Q) := by
                    intro r
                    induction r with
                    | zero =>
                      intro c sm hc hs
                      have : c = pr n2 0 := by omega
                      subst this
                      have smr : iR sm := by rcases hs with ⟨e, _⟩ | ⟨e, _⟩ <;> rw [e] <;> decide
                      refine mj_iload d_Mo_numberInList_117 rfl ?_
                      refine mj_iload_n d_Mo_numberInList_119 rfl ?_
                      refine mz_icmp_ge 163 d_Mo_numberInList_120 (by decide) (by omega) (by omega) (fun c_120 => ?_) (fun c_120 => ?_)
                      · refine mj_iload d_Mo_numberInList_163 rfl ?_
                        refine mz_if_eq 170 d_Mo_numberInList_165 (by decide) (by omega) (fun c_165 => ?_) (fun c_165 => ?_)
                        · rcases hs with ⟨e, _⟩ | ⟨_, p, p1, p2⟩
                          · omega
                          · refine mz_inc3 d_Mo_numberInList_170 (rfl) ?_
                            refine mj_goto 103 d_Mo_numberInList_173 (by decide) ?_
                            have w := ih (i + 1) (.int (iZ sm)) (.int (iZ (pr n2 0 : Nat))) rfl rfl (by omega) (fun j hj => by
                              by_cases e : j = i
                              · subst e
                                intro z
                                exact p2 ((same j (by omega)).mp z p p1)
                              · exact hno j (by omega))
                            rw [show ((i + 1 : Nat) : Int) = (i : Int) + 1 by omega] at w
                            exact w
                        · rcases hs with ⟨_, e⟩ | ⟨e, _⟩
                          · refine mj_iload_n d_Mo_numberInList_168 rfl ?_
                            refine mz_iret d_Mo_numberInList_169 rfl (rfl) ?_
                            rw [hQ]
                            refine ⟨f4, ga4, Or.inr ⟨hall, ?_⟩⟩
                            rw [cd2]
                            exact Or.inl ⟨i, rfl, by omega, (same i (by omega)).mpr e, hno⟩
                          · exact absurd e c_165
                      · omega
                    | succ r ihr =>
                      intro c sm hc hs
                      have smr : iR sm := by rcases hs with ⟨e, _⟩ | ⟨e, _⟩ <;> rw [e] <;> decide
                      have bz : Bz c = cd c := by rw [(b4 c (by omega)).1]; exact cd3 c (by omega)
                      have cl := cd1 c (by omega)
                      have tl : T (15 * i + c) = (dg (acc.getD i 0) c : Nat) := hT i (by omega) c (by omega)
                      have dl : dg (acc.getD i 0) c < 4 := Nat.mod_lt _ (by decide)
                      have t154 : ∀ y4 : Int, (∃ p, p < c + 1 ∧ T (15 * i + p) ≠ cd p) → mj_Ok Γ d M_Mo_numberInList 0 0 154 [.ref 40, .int (iZ (mj_sum F n2)), .int (iZ (pr n2 0 : Nat)), .int (iZ i), .int (iZ y4), .int (iZ c)] [] S_79 (mj_I Q) := by
                        intro y4 hx
                        refine mz_iconst d_Mo_numberInList_154 ?_
                        refine mz_ist4 d_Mo_numberInList_155 (rfl) ?_
                        refine mz_inc5 d_Mo_numberInList_157 (rfl) ?_
                        refine mj_goto 117 d_Mo_numberInList_160 (by decide) ?_
                        have w := ihr (c + 1) 0 (by omega) (Or.inr ⟨rfl, hx⟩)
                        rw [show ((c + 1 : Nat) : Int) = (c : Int) + 1 by omega] at w
                        exact w
                      refine mj_iload d_Mo_numberInList_117 rfl ?_
                      refine mj_iload_n d_Mo_numberInList_119 rfl ?_
                      refine mz_icmp_ge 163 d_Mo_numberInList_120 (by decide) (by omega) (by omega) (fun c_120 => ?_) (fun c_120 => ?_)
                      · omega
                      · refine mj_iload d_Mo_numberInList_123 rfl ?_
                        refine mz_if_eq 154 d_Mo_numberInList_125 (by decide) (by omega) (fun c_125 => ?_) (fun c_125 => ?_)
                        · rcases hs with ⟨e, _⟩ | ⟨_, p, p1, p2⟩
                          · omega
                          · exact t154 _ ⟨p, by omega, p2⟩
                        · rcases hs with ⟨_, e⟩ | ⟨e, _⟩
                          · refine mj_aload_n d_Mo_numberInList_128 rfl ?_
                            refine mj_get (ci := 9) (j := 8) d_Mo_numberInList_129 rfl w_Mo_21 (by decide) (by omega) (by assumption) rfl ?_
                            refine mz_bipush d_Mo_numberInList_132 (by decide) ?_
                            refine mj_iload_n d_Mo_numberInList_134 rfl ?_
                            refine mz_imul d_Mo_numberInList_135 ?_
                            refine mj_iload d_Mo_numberInList_136 rfl ?_
                            refine mz_iadd d_Mo_numberInList_138 ?_
                            refine mz_iald (j := 15 * i + c) d_Mo_numberInList_139 (by omega) (by assumption) (by omega) (by omega) ?_
                            rw [tl]
                            refine mj_aload_n d_Mo_numberInList_140 rfl ?_
                            refine mj_get (ci := 9) (j := 22) d_Mo_numberInList_141 rfl w_Mo_52 (by decide) (by omega) (by assumption) rfl ?_
                            refine mj_iload d_Mo_numberInList_144 rfl ?_
                            refine mz_iald (j := c) d_Mo_numberInList_146 (by omega) (b3) (by omega) (by omega) ?_
                            rw [bz]
                            refine mz_icmp_ne 154 d_Mo_numberInList_147 (by decide) (by omega) (by omega) (fun c_147 => ?_) (fun c_147 => ?_)
                            · exact t154 _ ⟨c, by omega, by omega⟩
                            · refine mz_iconst d_Mo_numberInList_150 ?_
                              refine mj_goto 155 d_Mo_numberInList_151 (by decide) ?_
                              refine mz_ist4 d_Mo_numberInList_155 (rfl) ?_
                              refine mz_inc5 d_Mo_numberInList_157 (rfl) ?_
                              refine mj_goto 117 d_Mo_numberInList_160 (by decide) ?_
                              have w := ihr (c + 1) 1 (by omega) (Or.inl ⟨rfl, fun p hp => by
                                by_cases z : p = c
                                · subst z; omega
                                · exact e p (by omega)⟩)
                              rw [show ((c + 1 : Nat) : Int) = (c : Int) + 1 by omega] at w
                              exact w
                          · exact absurd e c_125
                  refine mj_iload_n d_Mo_numberInList_103 rfl ?_
                  refine mj_aload_n d_Mo_numberInList_104 rfl ?_
                  refine mj_get (ci := 9) (j := 7) d_Mo_numberInList_105 rfl w_Mo_135 (by decide) (by omega) (by assumption) rfl ?_
                  refine mz_icmp_ge 176 d_Mo_numberInList_108 (by decide) (by omega) (by omega) (fun c_108 => ?_) (fun c_108 => ?_)
                  · omega
                  · refine mz_iconst d_Mo_numberInList_111 ?_
                    refine mz_ist4 d_Mo_numberInList_112 (by unfold mj_c1; simp only [List.all_cons, g4, g5]; rfl) ?_
                    refine mz_iconst d_Mo_numberInList_114 ?_
                    refine mz_ist5 d_Mo_numberInList_115 (by unfold mj_c1; simp only [List.all_cons, g5]; rfl) ?_
                    exact cmp (pr n2 0) 0 1 (by omega) (Or.inl ⟨rfl, fun p hp => absurd hp (Nat.not_lt_zero p)⟩)
              refine mz_if_ne 87 d_Mo_numberInList_82 (by decide) (by omega) (fun c_82 => ?_) (fun c_82 => ?_)
              · refine mj_aload_n d_Mo_numberInList_87 rfl ?_
                refine mj_get (ci := 9) (j := 4) d_Mo_numberInList_88 rfl w_Mo_129 (by decide) (by omega) (by assumption) rfl ?_
                refine mj_aload_n d_Mo_numberInList_91 rfl ?_
                refine mj_get (ci := 9) (j := 4) d_Mo_numberInList_92 rfl w_Mo_129 (by decide) (by omega) (by assumption) rfl ?_
                refine mz_iconst d_Mo_numberInList_95 ?_
                refine mz_isub d_Mo_numberInList_96 ?_
                refine mz_imul d_Mo_numberInList_97 ?_
                refine mz_iconst d_Mo_numberInList_98 ?_
                refine mz_idiv d_Mo_numberInList_99 (by omega) (by omega) (by omega) (by omega) ?_
                rw [hPi.1]
                refine mz_ist2 d_Mo_numberInList_100 (rfl) ?_
                refine mz_iconst d_Mo_numberInList_101 ?_
                refine mz_ist3 d_Mo_numberInList_102 (rfl) ?_
                exact find acc.length 0 _ _ rfl rfl (by omega) (fun j hj => absurd hj (Nat.not_lt_zero j))
              · omega
            · rw [if_neg g1] at hz
              subst hz
              refine mz_if_ne 87 d_Mo_numberInList_82 (by decide) (by omega) (fun c_82 => ?_) (fun c_82 => ?_)
              · omega
              · exact no (fun z => g1 (hgi.mpr z.2.2)) S_79 f4 ga4
        · omega
      | succ q ih =>
        intro j S2 Bs hj f2 b1 b2
        have h12 := f2.at h1 (by simp)
        have hw2 := f2.w.trans hw
        refine mj_iload_n d_Mo_numberInList_51 rfl ?_
        refine mz_bipush d_Mo_numberInList_52 (by decide) ?_
        refine mz_icmp_ge 70 d_Mo_numberInList_54 (by decide) (by omega) (by omega) (fun c_54 => ?_) (fun c_54 => ?_)
        · omega
        · refine mj_aload_n d_Mo_numberInList_57 rfl ?_
          refine mj_get (ci := 9) (j := 22) d_Mo_numberInList_58 rfl w_Mo_52 (by decide) (by omega) (by assumption) rfl ?_
          refine mj_iload_n d_Mo_numberInList_61 rfl ?_
          refine mz_iconst d_Mo_numberInList_62 ?_
          refine mz_iast d_Mo_numberInList_63 (by omega) (by assumption) (rfl) (by omega) (fun S_63 w_63 e_63 f_63 => ?_)
          refine mz_inc2 d_Mo_numberInList_64 (rfl) ?_
          refine mj_goto 51 d_Mo_numberInList_67 (by decide) ?_
          have w := ih (j + 1) S_63 _ (by omega) (f2.tr f_63 (by simp) (by simp)) e_63 (fun i hi => by
            by_cases e : i = j
            · subst e; rw [va_up_self]
            · rw [va_up_ne _ _ e]; exact b2 i (by omega))
          rw [show ((j + 1 : Nat) : Int) = (j : Int) + 1 by omega] at w
          exact w
    have sums : ∀ (q a : Nat), a + q = n2 → mj_Ok Γ d M_Mo_numberInList 0 0 17 [.ref 40, .int (iZ (mj_sum F a)), .int (iZ a), .retAddr 0, .retAddr 0, .retAddr 0] [] S (mj_I Q) := by
      intro q
      induction q with
      | zero =>
        intro a ha
        have : a = n2 := by omega
        subst this
        refine mj_iload_n d_Mo_numberInList_17 rfl ?_
        refine mj_aload_n d_Mo_numberInList_18 rfl ?_
        refine mj_get (ci := 9) (j := 19) d_Mo_numberInList_19 rfl w_Mo_167 (by decide) (by omega) (by assumption) rfl ?_
        refine mz_icmp_ge 49 d_Mo_numberInList_22 (by decide) (by omega) (by omega) (fun c_22 => ?_) (fun c_22 => ?_)
        · refine mz_iconst d_Mo_numberInList_49 ?_
          refine mz_ist2 d_Mo_numberInList_50 (rfl) ?_
          exact clear_ 15 0 S Bs0 (by omega) (mj_fr.rf _ _) h50 (fun i hi => absurd hi (Nat.not_lt_zero i))
        · omega
      | succ q ih =>
        intro a ha
        have ka := hK2 a (by omega)
        have hFa := hF a (by omega)
        refine mj_iload_n d_Mo_numberInList_17 rfl ?_
        refine mj_aload_n d_Mo_numberInList_18 rfl ?_
        refine mj_get (ci := 9) (j := 19) d_Mo_numberInList_19 rfl w_Mo_167 (by decide) (by omega) (by assumption) rfl ?_
        refine mz_icmp_ge 49 d_Mo_numberInList_22 (by decide) (by omega) (by omega) (fun c_22 => ?_) (fun c_22 => ?_)
        · omega
        · refine mj_iload_n d_Mo_numberInList_25 rfl ?_
          refine mj_aload_n d_Mo_numberInList_26 rfl ?_
          refine mj_get (ci := 9) (j := 20) d_Mo_numberInList_27 rfl w_Mo_46 (by decide) (by omega) (by assumption) rfl ?_
          refine mj_iload_n d_Mo_numberInList_30 rfl ?_
          refine mz_iald d_Mo_numberInList_31 (by omega) (by assumption) (rfl) (by omega) ?_
          rw [ka.1]
          refine mz_callS1i d_Mo_numberInList_32 (m_Mo_valence (d := 0) (by omega)) cw_Mo_valence lk_Mo_114 (by omega) rfl (fun z_32 S_32 h_32 => ?_)
          obtain ⟨e32, rfl⟩ := h_32
          rw [e32]
          refine mz_iadd d_Mo_numberInList_35 ?_
          refine mj_aload_n d_Mo_numberInList_36 rfl ?_
          refine mj_iload_n d_Mo_numberInList_37 rfl ?_
          refine mz_callV1i (ci := 9) d_Mo_numberInList_38 (m_Mo_sumOf (d := 0) hw hst h49 (by omega) (by omega)) cw_Mo_sumOf lk_Mo_180 rfl rfl (by omega) (by assumption) (by omega) rfl (fun z_38 S_38 h_38 => ?_)
          obtain ⟨e38, rfl⟩ := h_38
          rw [e38, hFa]
          refine mz_isub d_Mo_numberInList_41 ?_
          refine mz_ist1 d_Mo_numberInList_42 (rfl) ?_
          refine mz_inc2 d_Mo_numberInList_43 (rfl) ?_
          refine mj_goto 17 d_Mo_numberInList_46 (by decide) ?_
          have w := ih (a + 1) (by omega)
          rw [show ((a + 1 : Nat) : Int) = (a : Int) + 1 by omega, show mj_sum F (a + 1) = mj_sum F a + mj_VAL (KM2 a) - (mj_VAL (KM2 a) - F a) by rw [mj_sum]; omega] at w
          exact w
    exact sums n2 0 (by omega)
  · refine mz_iconst d_Mo_numberInList_11 ?_
    refine mz_iret d_Mo_numberInList_12 rfl (rfl) ?_
    rw [hQ]
    exact ⟨mj_fr.rf _ _, ga S (mj_fr.rf _ _) ⟨_, h50⟩, Or.inl ⟨fun z => by omega, rfl⟩⟩
end NL
