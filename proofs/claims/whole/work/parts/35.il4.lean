/-! the class itself: a text read -/
theorem tI_loop {L : Nat} {C : Nat → Int} : ∀ (m : Nat) (u : TS), tI L u → (tLoop L C m u).1 = -1 → tI L (tLoop L C m u).2 := by
  intro m
  induction m with
  | zero => intro u h _; exact h
  | succ m ih =>
    intro u h hz
    rw [tLoop] at hz ⊢
    by_cases q : tAt u < L
    · rw [if_pos q] at hz ⊢
      by_cases q1 : (tPart L C u).1 = -1
      · rw [if_pos q1] at hz ⊢
        exact ih _ (tI_part h q1).1 hz
      · rw [if_neg q1] at hz
        exact absurd hz q1
    · rw [if_neg q]
      exact h
theorem tI_read {L : Nat} {C : Nat → Int} {n : Nat} {K F B RA RB BA : Nat → Int} {rm : Bool} (hz : (tRead L C (mj_tr0 n K F B RA RB BA rm)).1 = -1) : tI L (tRead L C (mj_tr0 n K F B RA RB BA rm)).2 := by
  unfold tRead at hz ⊢
  by_cases q : (tAtom L C 0 (mj_tr0 n K F B RA RB BA rm)).1 = -1
  · rw [if_pos q] at hz ⊢
    by_cases q1 : (tLoop L C 60 (tAtom L C 0 (mj_tr0 n K F B RA RB BA rm)).2).1 = -1
    · rw [if_pos q1]
      exact tI_loop 60 _ (tI_atom0 q) q1
    · rw [if_neg q1] at hz
      exact absurd hz q1
  · rw [if_neg q] at hz
    exact absurd hz q
theorem mj_sum_r {F : Nat → Int} {b : Int} (hb : 0 ≤ b) : ∀ m : Nat, (∀ j, j < m → -b ≤ F j ∧ F j ≤ b) → -(b * m) ≤ mj_sum F m ∧ mj_sum F m ≤ b * m := by
  intro m
  induction m with
  | zero => intro _; simp [mj_sum]
  | succ m ih =>
    intro h
    have w := ih fun j hj => h j (by omega)
    have w2 := h m (by omega)
    rw [mj_sum]
    have e : b * ((m + 1 : Nat) : Int) = b * m + b := by rw [Int.natCast_succ, Int.mul_add, Int.mul_one]
    rw [e]
    omega
/-- the list's question: where is a molecule of these atoms and bonds -/
def mj_inP (n h : Nat) (KM : Nat → Nat) (acc : List Nat) (n2 : Nat) (F2 : Nat → Int) (KM2 BN : Nat → Nat) (z : Int) : Prop :=
  (¬ (n = n2 ∧ (h : Int) = mj_sum F2 n2 ∧ ∀ j, j < n → mj_cnt (fun i => (KM2 i : Int)) (KM j) n = mj_cnt (fun i => (KM i : Int)) (KM j) n) ∧ z = -1) ∨
  ((n = n2 ∧ (h : Int) = mj_sum F2 n2 ∧ ∀ j, j < n → mj_cnt (fun i => (KM2 i : Int)) (KM j) n = mj_cnt (fun i => (KM i : Int)) (KM j) n) ∧ mj_fd acc (chI n KM2 BN KM n 0 0 (fun _ => 0) (fun _ => false) (0, 0)).1 z)
def mj_rdP (S' : mj_S) (L : Nat) (C : Nat → Int) (n h : Nat) (KM : Nat → Nat) (acc : List Nat) (z : Int) : Prop :=
  ∃ (n0 : Nat) (K0 F0 B0 RA0 RB0 BA0 : Nat → Int) (rm0 : Bool),
    ((tRead L C (mj_tr0 n0 K0 F0 B0 RA0 RB0 BA0 rm0)).1 ≠ -1 ∧ z = (tRead L C (mj_tr0 n0 K0 F0 B0 RA0 RB0 BA0 rm0)).1 ∧ mj_IL S' L C (tAt (tRead L C (mj_tr0 n0 K0 F0 B0 RA0 RB0 BA0 rm0)).2 : Nat) n h KM acc) ∨
    ((tRead L C (mj_tr0 n0 K0 F0 B0 RA0 RB0 BA0 rm0)).1 = -1 ∧ mj_IL S' L C (-1) n h KM acc ∧ ∃ KM2 BN : Nat → Nat, (∀ j, j < (tRead L C (mj_tr0 n0 K0 F0 B0 RA0 RB0 BA0 rm0)).2.1 → (tRead L C (mj_tr0 n0 K0 F0 B0 RA0 RB0 BA0 rm0)).2.2.1 j = KM2 j ∧ KM2 j < 9) ∧
      (∀ j, j < 36 → (tRead L C (mj_tr0 n0 K0 F0 B0 RA0 RB0 BA0 rm0)).2.2.2.2.1 j = BN j ∧ BN j < 4) ∧ mj_inP n h KM acc (tRead L C (mj_tr0 n0 K0 F0 B0 RA0 RB0 BA0 rm0)).2.1 (tRead L C (mj_tr0 n0 K0 F0 B0 RA0 RB0 BA0 rm0)).2.2.2.1 KM2 BN z)
section IL4
variable {Γ : mj_G} {d L n h : Nat} {S : mj_S} {C : Nat → Int} {fp : Int} {KM : Nat → Nat} {acc : List Nat}
theorem tRead_r {L : Nat} {C : Nat → Int} {t0 : TS} (h0 : ∀ u : TS, -8 ≤ (tPart L C u).1 ∧ (tPart L C u).1 ≤ -1) (h1 : ∀ u : TS, -8 ≤ (tAtom L C 0 u).1 ∧ (tAtom L C 0 u).1 ≤ -1) : -8 ≤ (tRead L C t0).1 ∧ (tRead L C t0).1 ≤ -1 := by
  have hl : ∀ (m : Nat) (u : TS), -8 ≤ (tLoop L C m u).1 ∧ (tLoop L C m u).1 ≤ -1 := by
    intro m
    induction m with
    | zero => intro u; exact ⟨by show (-8 : Int) ≤ -1; decide, by show (-1 : Int) ≤ -1; decide⟩
    | succ m ih =>
      intro u
      rw [tLoop]
      split
      · split
        · exact ih _
        · exact h0 u
      · exact ⟨by show (-8 : Int) ≤ -1; decide, by show (-1 : Int) ≤ -1; decide⟩
  have he : ∀ u : TS, -8 ≤ tEnd u ∧ tEnd u ≤ -1 := by
    intro u
    obtain ⟨n, K, F, B, RA, RB, BA, br, la, rm, at_⟩ := u
    unfold tEnd
    simp only []
    split
    · decide
    · split
      · decide
      · split <;> decide
  unfold tRead
  split
  · split
    · exact he _
    · exact hl _ _
  · exact h1 _
theorem tAtom_r (told : Int) (u : TS) : -8 ≤ (tAtom L C told u).1 ∧ (tAtom L C told u).1 ≤ -1 := by
  obtain ⟨n, K, F, B, RA, RB, BA, br, la, rm, at_⟩ := u
  unfold tAtom
  simp only []
  split
  · exact ⟨by simp, by simp⟩
  · split
    · exact ⟨by simp, by simp⟩
    · exact ⟨by simp, by simp⟩
theorem tPart_r (u : TS) : -8 ≤ (tPart L C u).1 ∧ (tPart L C u).1 ≤ -1 := by
  have rr : ∀ (dg : Nat) (told : Int) (u : TS), -8 ≤ (tRing dg told u).1 ∧ (tRing dg told u).1 ≤ -1 := by
    intro dg told u
    obtain ⟨n, K, F, B, RA, RB, BA, br, la, rm, at_⟩ := u
    unfold tRing
    simp only []
    split
    · exact ⟨by simp, by simp⟩
    · split
      · exact ⟨by simp, by simp⟩
      · exact ⟨by simp, by simp⟩
  have rc : ∀ u : TS, -8 ≤ (tClose u).1 ∧ (tClose u).1 ≤ -1 := by
    intro u
    obtain ⟨n, K, F, B, RA, RB, BA, br, la, rm, at_⟩ := u
    unfold tClose
    simp only []
    split
    · exact ⟨by simp, by simp⟩
    · exact ⟨by simp, by simp⟩
  unfold tPart
  split
  · exact rc u
  · split
    · exact tAtom_r (tTold L C (tPush u)) (tBond L C (tPush u))
    · split
      · exact rr _ _ _
      · exact tAtom_r (tTold L C u) (tBond L C u)
theorem m_IL_read (hT : mj_tab Γ) (hI : mj_IL S L C fp n h KM acc) (hac : ∀ j, j < acc.length → acc.getD j 0 < 2 ^ 30) (hd : 10 ≤ d) : mj_Met Γ d y_IL_read M_IL_read [.ref 0] S 0 0 (mj_I fun z S' => mj_fr S S' mj_lo ∧ mj_rdP S' L C n h KM acc z) := by
  obtain ⟨cu, sp, ht, hw, ho, hl, hk, hc, hs, hb1, hb2, hb3⟩ := hI
  have ht0 := ht
  unfold mj_two at ht
  have ho0 : S.1 0 = _ := ho
  obtain ⟨⟨n0, K0, F0, B0, RA0, RB0, BA0, br0, la0, rm0, at0⟩, htr⟩ := hk.2.1
  have q5 := htr.1
  refine mj_Met.of (by decide) ⟨rfl, rfl⟩ rfl rfl rfl ?_
  refine mj_aload_n d_IL_read_0 rfl ?_
  refine mj_get (ci := 0) (j := 2) d_IL_read_1 rfl w_IL_26 (by decide) (by omega) (by assumption) rfl ?_
  refine mj_aload_n d_IL_read_4 rfl ?_
  refine mj_get (ci := 0) (j := 0) d_IL_read_5 rfl w_IL_10 (by decide) (by omega) (by assumption) rfl ?_
  refine mz_callV1i (ci := 3) d_IL_read_8 (m_Tr_readFrom (d := 6) hT hw hl htr (by omega)) cw_Tr_readFrom lk_IL_100 rfl rfl (by omega) (by assumption) (by omega) rfl (fun z_8 S_8 h_8 => ?_)
  obtain ⟨g1, hz, g2⟩ := h_8
  obtain ⟨u, hu⟩ : ∃ u, u = tRead L C (mj_tr0 n0 K0 F0 B0 RA0 RB0 BA0 rm0) := ⟨_, rfl⟩
  have hur : -8 ≤ u.1 ∧ u.1 ≤ -1 := by rw [hu]; exact tRead_r tPart_r (tAtom_r 0)
  have hui : u.1 = -1 → tI L u.2 := by rw [hu]; exact tI_read
  rw [← hu] at hz g2
  subst hz
  have hw8 : S_8.2.1 = 65 := g1.w.trans hw
  have ho8 : S_8.1 0 = _ := g1.at ho0 (by simp)
  have hl8 : mj_ln S_8 L C := hl.fr g1 (by simp) (by simp)
  have hk8 : mj_wk S_8 := by
    obtain ⟨⟨a1, A1, q1⟩, -, ⟨r, CF, RS, RE, q3, q4, q5, q6⟩, q7, ⟨V, GA, q8, q9, q10⟩, ⟨o9, K9, F9, B9, q11⟩, ⟨o8, K8, F8, B8, q12⟩⟩ := hk
    exact ⟨⟨a1, A1, q1.fr g1 (by simp) (by simp)⟩, ⟨_, g2⟩, ⟨r, CF, RS, RE, g1.at q3 (by simp), g1.at q4 (by simp), g1.at q5 (by simp), g1.at q6 (by simp)⟩, q7.fr g1 (by simp) (by simp) (by simp), ⟨V, GA, g1.at q8 (by simp), g1.at q9 (by simp), g1.at q10 (by simp)⟩, ⟨o9, K9, F9, B9, q11.fr g1 (by simp)⟩, ⟨o8, K8, F8, B8, q12.fr g1 (by simp)⟩⟩
  have hc8 : mj_cc S_8 cu n h KM acc := hc.fr g1 (by simp; omega)
  have hs8 : mj_sp S_8 sp := by
    obtain ⟨K2, D2, n2, h2, z2, hs⟩ := hs
    exact ⟨K2, D2, n2, h2, z2, hs.fr g1 (by simp; omega)⟩
  have t1 : S_8.1 5 = .inr (3, [.ref 6, .ref 10, .ref 11, .ref 12, .int (iZ (u.2.2.2.2.2.2.2.2.1 : Nat)), .int (iZ u.2.2.2.2.2.2.2.2.2.1), .int (iZ (if u.2.2.2.2.2.2.2.2.2.2.1 then 1 else 0)), .int (iZ (tAt u.2 : Nat))]) := by
    obtain ⟨z, n, K, F, B, RA, RB, BA, br, la, rm, at_⟩ := u
    exact g2.1
  have fin : ∀ (S' : mj_S) (fp1 : Int), mj_fr S_8 S' [0] → mj_ob S' cu sp fp1 → mj_IL S' L C fp1 n h KM acc := by
    intro S' fp1 p1 hob
    refine ⟨cu, sp, ht0, p1.w.trans hw8, hob, hl8.fr p1 (by simp) (by simp), hk8.fr p1 (by simp), hc8.fr p1 (by simp; omega), ?_, hb1, hb2, hb3⟩
    obtain ⟨K2, D2, n2, h2, z2, hs⟩ := hs8
    exact ⟨K2, D2, n2, h2, z2, hs.fr p1 (by simp; omega)⟩
  refine mz_ist1 d_IL_read_11 (rfl) ?_
  refine mj_aload_n d_IL_read_12 rfl ?_
  refine mj_iload_n d_IL_read_13 rfl ?_
  refine mz_iconst d_IL_read_14 ?_
  refine mz_icmp_ne 22 d_IL_read_15 (by decide) (by omega) (by omega) (fun c_15 => ?_) (fun c_15 => ?_)
  · refine mj_aload_n d_IL_read_22 rfl ?_
    refine mj_get (ci := 0) (j := 2) d_IL_read_23 rfl w_IL_26 (by decide) (by omega) (by assumption) rfl ?_
    refine mj_get (ci := 3) (j := 7) d_IL_read_26 rfl w_IL_101 (by decide) (by omega) (by assumption) rfl ?_
    refine mz_put (ci := 0) (j := 8) d_IL_read_29 rfl w_IL_65 (by decide) rfl (by omega) (by assumption) (Nat.le_of_ble_eq_true rfl) (mj_fit_int _) rfl (fun S_29 w_29 e_29 f_29 => ?_)
    refine mj_iload_n d_IL_read_32 rfl ?_
    refine mz_iconst d_IL_read_33 ?_
    refine mz_icmp_ne 51 d_IL_read_34 (by decide) (by omega) (by omega) (fun c_34 => ?_) (fun c_34 => ?_)
    · refine mj_iload_n d_IL_read_51 rfl ?_
      refine mz_iret d_IL_read_52 rfl (rfl) ?_
      refine ⟨(g1.tr f_29 (by simp) (by simp)), n0, K0, F0, B0, RA0, RB0, BA0, rm0, Or.inl ?_⟩
      rw [← hu]
      exact ⟨c_15, rfl, fin _ _ f_29 e_29⟩
    · exact absurd c_34 c_15
  · refine mz_iconst d_IL_read_18 ?_
    refine mj_goto 29 d_IL_read_19 (by decide) ?_
    refine mz_put (ci := 0) (j := 8) d_IL_read_29 rfl w_IL_65 (by decide) rfl (by omega) (by assumption) (Nat.le_of_ble_eq_true rfl) (mj_fit_int _) rfl (fun S_29 w_29 e_29 f_29 => ?_)
    refine mj_iload_n d_IL_read_32 rfl ?_
    refine mz_iconst d_IL_read_33 ?_
    refine mz_icmp_ne 51 d_IL_read_34 (by decide) (by omega) (by omega) (fun c_34 => ?_) (fun c_34 => ?_)
    · exact absurd c_15 c_34
    · have hi := hui c_15
      have hIL := fin _ _ f_29 e_29
      have hw29 : S_29.2.1 = 65 := f_29.w.trans hw8
      have t2 := f_29.at t1 (by simp)
      have hm : mj_ml S_8 6 u.2.1 u.2.2.1 u.2.2.2.1 u.2.2.2.2.1 ∧ u.2.1 ≤ 6 ∧ (∀ j, j < u.2.1 → ∃ k : Nat, u.2.2.1 j = k ∧ k < 9) ∧ (∀ j, j < 36 → 0 ≤ u.2.2.2.2.1 j ∧ u.2.2.2.2.1 j ≤ 3) ∧ ∀ j, j < u.2.1 → -1000 ≤ u.2.2.2.1 j ∧ u.2.2.2.1 j ≤ 1000 := by
        have hL := hl.2.2.1
        obtain ⟨z, n, K, F, B, RA, RB, BA, br, la, rm, at_⟩ := u
        obtain ⟨i1, i2, i3, i4, i5, i6, i7, i8, i9, i10⟩ := hi
        exact ⟨g2.2.1, i2, i10, i9, fun j hj => by have := i8 j hj; show -1000 ≤ F j ∧ F j ≤ 1000; omega⟩
      obtain ⟨hm1, hm2, hm3, hm4, hm5⟩ := hm
      have hsum := mj_sum_r (F := u.2.2.2.1) (b := 1000) (by decide) u.2.1 hm5
      have hK2 : ∀ j, j < u.2.1 → u.2.2.1 j = ((fun i => (u.2.2.1 i).toNat) j : Nat) ∧ (fun i => (u.2.2.1 i).toNat) j < 9 := fun j hj => by
        obtain ⟨k, e1, e2⟩ := hm3 j hj
        show _ = (((u.2.2.1 j).toNat : Nat) : Int) ∧ (u.2.2.1 j).toNat < 9
        omega
      have hB2 : ∀ j, j < 36 → u.2.2.2.2.1 j = ((fun i => (u.2.2.2.2.1 i).toNat) j : Nat) ∧ (fun i => (u.2.2.2.2.1 i).toNat) j < 4 := fun j hj => by
        have := hm4 j hj
        show _ = (((u.2.2.2.2.1 j).toNat : Nat) : Int) ∧ (u.2.2.2.2.1 j).toNat < 4
        omega
      refine mj_aload_n d_IL_read_37 rfl ?_
      refine mj_aload_n d_IL_read_38 rfl ?_
      refine mj_get (ci := 0) (j := 2) d_IL_read_39 rfl w_IL_26 (by decide) (by omega) (by assumption) rfl ?_
      refine mj_get (ci := 3) (j := 0) d_IL_read_42 rfl w_IL_102 (by decide) (by omega) (by assumption) rfl ?_
      refine mz_callV1i (ci := 0) d_IL_read_45 (m_IL_findInList (d := 9) ht0 hw29 e_29 (hk8.fr f_29 (by simp)).2.2.2.1.1 (hc8.fr f_29 (by simp; omega)) (hm1.fr f_29 (by simp)) hb1 hb2 hm2 hb3 hac hK2 hB2 (by omega) (by omega)) cw_IL_findInList lk_IL_105 rfl rfl (by omega) (by assumption) (by omega) rfl (fun z_45 S_45 h_45 => ?_)
      obtain ⟨g3, g4, g5⟩ := h_45
      refine mj_goto 52 d_IL_read_48 (by decide) ?_
      refine mz_iret d_IL_read_52 rfl (rfl) ?_
      have f5 : mj_fr S_8 S_45 [0, 17, 18, 19] := f_29.tr g3 (by simp) (by simp)
      refine ⟨g1.tr f5 (by simp) (by simp), n0, K0, F0, B0, RA0, RB0, BA0, rm0, Or.inr ?_⟩
      rw [← hu]
      refine ⟨c_15, ?_, _, _, hK2, hB2, g5⟩
      obtain ⟨cu2, sp2, i1, i2, i3, i4, i5, i6, i7, i8⟩ := hIL
      unfold mj_two at i1
      have hk9 : mj_wk S_45 := by
        obtain ⟨⟨a1, A1, q1⟩, ⟨t, q2⟩, ⟨r, CF, RS, RE, q3, q4, q5, q6⟩, q7, ⟨V, GA, q8, q9, q10⟩, ⟨o9, K9, F9, B9, q11⟩, ⟨o8, K8, F8, B8, q12⟩⟩ := i5
        exact ⟨⟨a1, A1, q1.fr g3 (by simp) (by simp)⟩, ⟨t, q2.fr g3 (by simp)⟩, ⟨r, CF, RS, RE, g3.at q3 (by simp), g3.at q4 (by simp), g3.at q5 (by simp), g3.at q6 (by simp)⟩, ⟨g4, q7.2.fr g3 (by simp) (by simp) (by simp)⟩, ⟨V, GA, g3.at q8 (by simp), g3.at q9 (by simp), g3.at q10 (by simp)⟩, ⟨o9, K9, F9, B9, q11.fr g3 (by simp)⟩, ⟨o8, K8, F8, B8, q12.fr g3 (by simp)⟩⟩
      obtain ⟨K2, D2, n2, h2, z2, hs⟩ := i7
      exact ⟨cu2, sp2, i1, g3.w.trans i2, g3.at i3 (by simp), i4.fr g3 (by simp) (by simp), hk9, i6.fr g3 (by simp; omega), ⟨K2, D2, n2, h2, z2, hs.fr g3 (by simp; omega)⟩, i8⟩
end IL4
