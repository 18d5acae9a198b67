/-! the class itself: a formula read, a text read -/
/-- the elements of a formula's atoms, by their numbers -/
def ktk (c : Nat → Nat) (j : Nat) : Nat := ((tkA c 9 (0, fun _ => 0)).2 j).toNat
def tkG (p q : Nat × (Nat → Int)) : Prop := p.1 = q.1 ∧ ∀ j, j < p.1 → p.2 j = q.2 j ∧ 0 ≤ p.2 j ∧ p.2 j < 9
theorem tk1_g {e : Nat} (he : e < 9) : ∀ (m : Nat) (p q : Nat × (Nat → Int)), tkG p q → tkG (tk1 e m p) (tk1 e m q) ∧ (tk1 e m p).1 = p.1 + m := by
  intro m
  induction m with
  | zero => intro p q h; exact ⟨h, rfl⟩
  | succ m ih =>
    intro p q h
    rw [tk1, tk1]
    have w := ih (p.1 + 1, va_up p.2 p.1 e) (q.1 + 1, va_up q.2 q.1 e) ⟨by show p.1 + 1 = q.1 + 1; rw [h.1], fun j hj => by
      have hj : j < p.1 + 1 := hj
      show va_up p.2 p.1 (e : Int) j = va_up q.2 q.1 (e : Int) j ∧ _
      rw [← h.1]
      by_cases e1 : j = p.1
      · subst e1
        rw [va_up_self, va_up_self]
        show _ ∧ 0 ≤ va_up p.2 p.1 (e : Int) p.1 ∧ va_up p.2 p.1 (e : Int) p.1 < 9
        rw [va_up_self]
        omega
      · show _ ∧ 0 ≤ va_up p.2 p.1 (e : Int) j ∧ va_up p.2 p.1 (e : Int) j < 9
        rw [va_up_ne _ _ e1, va_up_ne _ _ e1]
        exact h.2 j (by omega)⟩
    refine ⟨w.1, ?_⟩
    rw [w.2]
    show p.1 + 1 + m = p.1 + (m + 1)
    omega
theorem tkA_g {c : Nat → Nat} : ∀ (m : Nat) (p q : Nat × (Nat → Int)), m ≤ 9 → tkG p q → tkG (tkA c m p) (tkA c m q) ∧ (tkA c m p).1 = p.1 + tkS c m := by
  intro m
  induction m with
  | zero => intro p q _ h; exact ⟨h, rfl⟩
  | succ m ih =>
    intro p q hm h
    rw [tkA, tkA, tkS]
    have w1 := tk1_g (e := 9 - (m + 1)) (by omega) (c (9 - (m + 1))) p q h
    have w2 := ih _ _ (by omega) w1.1
    refine ⟨w2.1, ?_⟩
    rw [w2.2, w1.2]
    omega
theorem ktk_spec {c : Nat → Nat} {K : Nat → Int} : (tkA c 9 (0, K)).1 = tkS c 9 ∧ ∀ j, j < tkS c 9 → (tkA c 9 (0, K)).2 j = ktk c j ∧ ktk c j < 9 := by
  have w := tkA_g (c := c) 9 (0, K) (0, fun _ => 0) (by omega) ⟨rfl, fun j hj => absurd hj (Nat.not_lt_zero j)⟩
  have e : (tkA c 9 (0, K)).1 = tkS c 9 := by rw [w.2]; show 0 + _ = _; omega
  refine ⟨e, fun j hj => ?_⟩
  obtain ⟨h1, h2, h3⟩ := w.1.2 j (by rw [e]; exact hj)
  unfold ktk
  rw [← h1]
  omega
theorem fread_ok {n : Nat} {C : Nat → Int} (hn : n ≤ 60) : (∀ j, j < 10 → (fread n C).2.2 j ≤ 99) ∧ ((fread n C).1 = -1 → (fread n C).2.1 = n ∧ 1 ≤ tkS (fread n C).2.2 9 ∧ tkS (fread n C).2.2 9 ≤ 6) ∧ -5 ≤ (fread n C).1 ∧ (fread n C).1 ≤ -1 := by
  have w := floop_ok (C := C) 60 0 (fun _ => 0) (Nat.zero_le n) (by omega) (fun _ _ => Nat.zero_le _)
  unfold fread
  by_cases q : n = 0
  · rw [if_pos q]
    exact ⟨fun _ _ => Nat.zero_le _, fun h => absurd h (by decide), by decide, by decide⟩
  · rw [if_neg q]
    by_cases q1 : (floop n C 60 0 (fun _ => 0)).1 = -1
    · rw [if_pos q1]
      refine ⟨w.2.1, fun h => ?_, ?_, ?_⟩
      · refine ⟨rfl, ?_⟩
        show 1 ≤ tkS (floop n C 60 0 fun _ => 0).2.2 9 ∧ tkS (floop n C 60 0 fun _ => 0).2.2 9 ≤ 6
        have h : (if tkS (floop n C 60 0 (fun _ => 0)).2.2 9 < 1 ∨ 6 < tkS (floop n C 60 0 (fun _ => 0)).2.2 9 then (-5 : Int) else -1) = -1 := h
        by_cases q2 : tkS (floop n C 60 0 (fun _ => 0)).2.2 9 < 1 ∨ 6 < tkS (floop n C 60 0 (fun _ => 0)).2.2 9
        · rw [if_pos q2] at h; exact absurd h (by decide)
        · omega
      · show (-5 : Int) ≤ if _ then (-5 : Int) else -1
        split <;> decide
      · show (if _ then (-5 : Int) else -1) ≤ (-1 : Int)
        split <;> decide
    · rw [if_neg q1]
      exact ⟨w.2.1, fun h => absurd h q1, by omega, by omega⟩
section IL3
variable {Γ : mj_G} {d L n h : Nat} {S : mj_S} {C : Nat → Int} {fp : Int} {KM : Nat → Nat} {acc : List Nat}
/-- what formula answers, and what the object is then -/
def mj_foP (S' : mj_S) (L : Nat) (C : Nat → Int) (n h : Nat) (KM : Nat → Nat) (acc : List Nat) (z : Int) : Prop :=
  ((fread L C).1 ≠ -1 ∧ z = (fread L C).1 ∧ mj_IL S' L C ((fread L C).2.1 : Nat) n h KM acc) ∨
  ((fread L C).1 = -1 ∧ ((mj_same n h KM (tkS (fread L C).2.2 9) ((fread L C).2.2 9) (ktk (fread L C).2.2) ∧ z = acc.length ∧ mj_IL S' L C (-1) n h KM acc) ∨
    ∃ E, mj_lst (tkS (fread L C).2.2 9) ((fread L C).2.2 9) (ktk (fread L C).2.2) E ∧ ((500 < E.length ∧ z = -6 ∧ mj_IL S' L C (L : Nat) n h KM acc) ∨ (E.length ≤ 500 ∧ z = E.length ∧ mj_IL S' L C (-1) (tkS (fread L C).2.2 9) ((fread L C).2.2 9) (ktk (fread L C).2.2) E))))
theorem m_IL_listAnew {cu sp n0 h0 z0 : Nat} {K0 D0 A : Nat → Int} {c : Nat → Nat} (hT : mj_tab Γ) (ht : mj_two cu sp) (hw : S.2.1 = 65) (ho : mj_ob S cu sp fp) (hk : mj_wk S) (hc : mj_cc S cu n h KM acc) (hs : mj_ca S sp K0 D0 n0 h0 z0) (he : S.1 4 = .inl (0, 10, .inl (mj_z A))) (hA : ∀ j, j < 10 → A j = c j) (hn : n ≤ 6) (hh : h ≤ 1000) (h1 : 1 ≤ tkS c 9) (h6 : tkS c 9 ≤ 6) (h9 : c 9 ≤ 1000) (hd : 201 ≤ d) :
    mj_Met Γ d y_IL_listAnew M_IL_listAnew [.ref 0, .ref 4] S 0 0 (mj_I fun z S' => mj_fr S S' [24, 25, 26, 20, 27, 28, 29, 30, 31, 32, sp, sp + 1, sp + 2, cu, cu + 1, cu + 2] ∧ mj_wk S' ∧
      ((mj_same n h KM (tkS c 9) (c 9) (ktk c) ∧ z = -1 ∧ mj_ob S' cu sp fp ∧ mj_cc S' cu n h KM acc ∧ mj_sp S' sp) ∨
       ∃ E, ¬ mj_same n h KM (tkS c 9) (c 9) (ktk c) ∧ mj_lst (tkS c 9) (c 9) (ktk c) E ∧ E.length ≤ 501 ∧ ((500 < E.length ∧ z = -6 ∧ mj_ob S' cu sp fp ∧ mj_cc S' cu n h KM acc ∧ mj_sp S' sp) ∨ (E.length ≤ 500 ∧ z = -1 ∧ mj_ob S' cu sp fp ∧ mj_cc S' cu (tkS c 9) (c 9) (ktk c) E ∧ mj_sp S' sp)))) := by
  have ht0 := ht
  unfold mj_two at ht
  obtain ⟨ht1, ht2⟩ := ht
  have ho0 : S.1 0 = _ := ho
  obtain ⟨V, GA, k5, k6, k7⟩ := hk.2.2.2.2.1
  rw [← ht2] at k5
  have q1 := hs.1
  refine mj_Met.of (by decide) ⟨rfl, rfl⟩ rfl rfl rfl ?_
  refine mj_aload_n d_IL_listAnew_0 rfl ?_
  refine mj_get (ci := 0) (j := 5) d_IL_listAnew_1 rfl w_IL_47 (by decide) (by omega) (by assumption) rfl ?_
  refine mj_get (ci := 7) (j := 0) d_IL_listAnew_4 rfl w_IL_156 (by decide) (by omega) (by assumption) rfl ?_
  refine mz_ast2 d_IL_listAnew_7 (rfl) ?_
  refine mj_aload_n d_IL_listAnew_8 rfl ?_
  refine mj_aload_n d_IL_listAnew_9 rfl ?_
  refine mz_callV1v (ci := 8) d_IL_listAnew_10 (m_Ca_take (d := 0) hw hs (by omega) (by omega) he hA h6 h9) cw_Ca_take lk_IL_159 rfl rfl (by omega) (by assumption) (by omega) rfl (fun S_10 h_10 => ?_)
  obtain ⟨g4, g5⟩ := h_10
  obtain ⟨k1, k2⟩ := ktk_spec (c := c) (K := K0)
  rw [k1] at g5
  have hw10 : S_10.2.1 = 65 := g4.w.trans hw
  have ho10 : mj_ob S_10 cu sp fp := g4.at ho0 (by simp; omega)
  have hk10 : mj_wk S_10 := hk.fr g4 (by simp; omega)
  have hc10 : mj_cc S_10 cu n h KM acc := hc.fr g4 (by simp; omega)
  have hs10 : mj_cc S_10 sp (tkS c 9) (c 9) (ktk c) [] := ⟨_, _, g5, k2, fun j _ hj => absurd hj (Nat.not_lt_zero j)⟩
  refine mj_Ok.post (fun o S' hp => ?_) (m_IL_listRest hT ht0 hw10 ho10 hk10 hc10 hs10 hn hh ⟨h1, h6⟩ h9 hd)
  cases o with
  | inr x => exact hp
  | inl v =>
    obtain ⟨z, e, p1, p2⟩ := hp
    exact ⟨z, e, g4.tr p1 (by intro j hj; simp only [List.mem_cons, List.not_mem_nil, or_false] at hj ⊢; omega) (by intro j hj; simp only [List.mem_cons, List.not_mem_nil, or_false] at hj ⊢; omega), p2⟩
theorem m_IL_formula (hT : mj_tab Γ) (hI : mj_IL S L C fp n h KM acc) (hd : 202 ≤ d) : mj_Met Γ d y_IL_formula M_IL_formula [.ref 0] S 0 0 (mj_I fun z S' => mj_fr S S' mj_lo ∧ mj_foP S' L C n h KM acc z) := by
  obtain ⟨cu, sp, ht, hw, ho, hl, hk, hc, hs, hb1, hb2, hb3⟩ := hI
  have ht0 := ht
  unfold mj_two at ht
  have hq1 : sp = 21 ∨ sp = 21 := by omega
  have hq2 : cu = 37 := by omega
  have ho0 : S.1 0 = _ := ho
  obtain ⟨a0, A0, hf3⟩ := hk.1
  have q3 := hf3.1
  obtain ⟨r1, r2, r3, r4⟩ := fread_ok (C := C) hl.2.2.1
  refine mj_Met.of (by decide) ⟨rfl, rfl⟩ rfl rfl rfl ?_
  refine mj_aload_n d_IL_formula_0 rfl ?_
  refine mj_get (ci := 0) (j := 1) d_IL_formula_1 rfl w_IL_19 (by decide) (by omega) (by assumption) rfl ?_
  refine mj_aload_n d_IL_formula_4 rfl ?_
  refine mj_get (ci := 0) (j := 0) d_IL_formula_5 rfl w_IL_10 (by decide) (by omega) (by assumption) rfl ?_
  refine mz_callV1i (ci := 2) d_IL_formula_8 (m_Fr_readFrom (d := 3) hT hw hl hf3 (by omega)) cw_Fr_readFrom lk_IL_82 rfl rfl (by omega) (by assumption) (by omega) rfl (fun z_8 S_8 h_8 => ?_)
  obtain ⟨g1, A', hz, g2, g3⟩ := h_8
  subst hz
  have hw8 : S_8.2.1 = 65 := g1.w.trans hw
  have ho8 : S_8.1 0 = _ := g1.at ho0 (by simp)
  have hl8 : mj_ln S_8 L C := hl.fr g1 (by simp) (by simp)
  have hk8 : mj_wk S_8 := by
    obtain ⟨-, ⟨t, q2⟩, ⟨r, CF, RS, RE, q3, q4, q5, q6⟩, q7, ⟨V, GA, q8, q9, q10⟩, ⟨o9, K9, F9, B9, q11⟩, ⟨o8, K8, F8, B8, q12⟩⟩ := hk
    exact ⟨⟨_, _, g2⟩, ⟨t, q2.fr g1 (by simp)⟩, ⟨r, CF, RS, RE, g1.at q3 (by simp), g1.at q4 (by simp), g1.at q5 (by simp), g1.at q6 (by simp)⟩, q7.fr g1 (by simp) (by simp) (by simp), ⟨V, GA, g1.at q8 (by simp), g1.at q9 (by simp), g1.at q10 (by simp)⟩, ⟨o9, K9, F9, B9, q11.fr g1 (by simp)⟩, ⟨o8, K8, F8, B8, q12.fr g1 (by simp)⟩⟩
  have hc8 : mj_cc S_8 cu n h KM acc := hc.fr g1 (by simp; omega)
  have hs8 : mj_sp S_8 sp := by
    obtain ⟨K2, D2, n2, h2, z2, hs⟩ := hs
    exact ⟨K2, D2, n2, h2, z2, hs.fr g1 (by simp; omega)⟩
  have q31 := g2.1
  have bad : ∀ (z : Int) (S1 : mj_S) (fp1 : Int) (at1 : Nat) (A1 : Nat → Int), iR z → z ≠ -1 → S1.2.1 = 65 → mj_ob S1 cu sp fp1 → mj_fr3 S1 at1 A1 → mj_Ok Γ d M_IL_formula 0 0 29 [.ref 0, .int (iZ z)] [] S1 (mj_I fun r S' => mj_fr S1 S' [0] ∧ r = z ∧ mj_ob S' cu sp (at1 : Nat)) := by
    intro z S1 fp1 at1 A1 hz hz1 hw1 hob1 hfr1
    have q1 : S1.1 0 = _ := hob1
    have q2 := hfr1.1
    refine mj_aload_n d_IL_formula_29 rfl ?_
    refine mj_iload_n d_IL_formula_30 rfl ?_
    refine mz_iconst d_IL_formula_31 ?_
    refine mz_icmp_ne 39 d_IL_formula_32 (by decide) (by omega) (by omega) (fun c_32 => ?_) (fun c_32 => ?_)
    · refine mj_aload_n d_IL_formula_39 rfl ?_
      refine mj_get (ci := 0) (j := 1) d_IL_formula_40 rfl w_IL_19 (by decide) (by omega) (by assumption) rfl ?_
      refine mj_get (ci := 2) (j := 1) d_IL_formula_43 rfl w_IL_94 (by decide) (by omega) (by assumption) rfl ?_
      refine mz_put (ci := 0) (j := 8) d_IL_formula_46 rfl w_IL_65 (by decide) rfl (by omega) (by assumption) (Nat.le_of_ble_eq_true rfl) (mj_fit_int _) rfl (fun S_46 w_46 e_46 f_46 => ?_)
      refine mj_iload_n d_IL_formula_49 rfl ?_
      refine mz_iconst d_IL_formula_50 ?_
      refine mz_icmp_ne 64 d_IL_formula_51 (by decide) (by omega) (by omega) (fun c_51 => ?_) (fun c_51 => ?_)
      · refine mj_iload_n d_IL_formula_64 rfl ?_
        refine mz_iret d_IL_formula_65 rfl (rfl) ?_
        exact ⟨f_46, rfl, e_46⟩
      · exact absurd c_51 hz1
    · exact absurd c_32 hz1
  have good : ∀ (S1 : mj_S) (fp1 : Int) (cu1 sp1 n1 h1 : Nat) (K1 : Nat → Nat) (acc1 : List Nat), mj_two cu1 sp1 → S1.2.1 = 65 → mj_ob S1 cu1 sp1 fp1 → mj_cc S1 cu1 n1 h1 K1 acc1 → mj_Ok Γ d M_IL_formula 0 0 29 [.ref 0, .int (iZ (-1))] [] S1 (mj_I fun r S' => mj_fr S1 S' [0] ∧ r = acc1.length ∧ mj_ob S' cu1 sp1 (-1)) := by
    intro S1 fp1 cu1 sp1 n1 h1 K1 acc1 htt hw1 hob1 hcc1
    unfold mj_two at htt
    have q1 : S1.1 0 = _ := hob1
    obtain ⟨KC, D, hca, -, -⟩ := hcc1
    have q2 := hca.1
    refine mj_aload_n d_IL_formula_29 rfl ?_
    refine mj_iload_n d_IL_formula_30 rfl ?_
    refine mz_iconst d_IL_formula_31 ?_
    refine mz_icmp_ne 39 d_IL_formula_32 (by decide) (by omega) (by omega) (fun c_32 => ?_) (fun c_32 => ?_)
    · exact absurd rfl c_32
    · refine mz_iconst d_IL_formula_35 ?_
      refine mj_goto 46 d_IL_formula_36 (by decide) ?_
      refine mz_put (ci := 0) (j := 8) d_IL_formula_46 rfl w_IL_65 (by decide) rfl (by omega) (by assumption) (Nat.le_of_ble_eq_true rfl) (mj_fit_int _) rfl (fun S_46 w_46 e_46 f_46 => ?_)
      have q3 := f_46.at q2 (by simp; omega)
      refine mj_iload_n d_IL_formula_49 rfl ?_
      refine mz_iconst d_IL_formula_50 ?_
      refine mz_icmp_ne 64 d_IL_formula_51 (by decide) (by omega) (by omega) (fun c_51 => ?_) (fun c_51 => ?_)
      · exact absurd rfl c_51
      · refine mj_aload_n d_IL_formula_54 rfl ?_
        refine mj_get (ci := 0) (j := 7) d_IL_formula_55 rfl w_IL_61 (by decide) (by omega) (by assumption) rfl ?_
        refine mj_get (ci := 8) (j := 4) d_IL_formula_58 rfl w_IL_97 (by decide) (by omega) (by assumption) rfl ?_
        refine mj_goto 65 d_IL_formula_61 (by decide) ?_
        refine mz_iret d_IL_formula_65 rfl (rfl) ?_
        exact ⟨f_46, rfl, e_46⟩
  refine mz_ist1 d_IL_formula_11 (rfl) ?_
  refine mj_iload_n d_IL_formula_12 rfl ?_
  refine mz_iconst d_IL_formula_13 ?_
  refine mz_icmp_ne 29 d_IL_formula_14 (by decide) (by omega) (by omega) (fun c_14 => ?_) (fun c_14 => ?_)
  · refine mj_Ok.post (fun o S' hp => ?_) (bad (fread L C).1 S_8 fp (fread L C).2.1 A' (by omega) c_14 hw8 ho8 g2)
    cases o with
    | inr x => exact hp
    | inl v =>
      obtain ⟨z, e, p1, p2, p3⟩ := hp
      refine ⟨z, e, g1.tr p1 (by simp) (by simp), Or.inl ⟨c_14, p2, cu, sp, ht0, p1.w.trans hw8, p3, hl8.fr p1 (by simp) (by simp), hk8.fr p1 (by simp), hc8.fr p1 (by simp; omega), ?_, hb1, hb2, hb3⟩⟩
      obtain ⟨K2, D2, n2, h2, z2, hs⟩ := hs8
      exact ⟨K2, D2, n2, h2, z2, hs.fr p1 (by simp; omega)⟩
  · obtain ⟨r5, r6, r7⟩ := r2 c_14
    obtain ⟨K2, D2, n2, h2, z2, hs8⟩ := hs8
    refine mj_aload_n d_IL_formula_17 rfl ?_
    refine mj_aload_n d_IL_formula_18 rfl ?_
    refine mj_get (ci := 0) (j := 1) d_IL_formula_19 rfl w_IL_19 (by decide) (by omega) (by assumption) rfl ?_
    refine mj_get (ci := 2) (j := 0) d_IL_formula_22 rfl w_IL_86 (by decide) (by omega) (by assumption) rfl ?_
    refine mz_callV1i (ci := 0) d_IL_formula_25 (m_IL_listAnew (d := 201) hT ht0 hw8 ho8 hk8 hc8 hs8 g2.2 g3 hb1 hb2 r6 r7 (by have := r1 9 (by omega); omega) (by omega)) cw_IL_listAnew lk_IL_90 rfl rfl (by omega) (by assumption) (by omega) rfl (fun z_25 S_25 h_25 => ?_)
    obtain ⟨g6, hk25, g7⟩ := h_25
    have hw25 : S_25.2.1 = 65 := g6.w.trans hw8
    have hl25 : mj_ln S_25 L C := hl8.fr g6 (by rcases hq1 with e | e <;> rw [e] <;> (try rw [hq2]) <;> simp) (by rcases hq1 with e | e <;> rw [e] <;> (try rw [hq2]) <;> simp)
    have f9 : mj_fr S S_25 mj_lo := g1.tr g6 (by simp) (by rcases hq1 with e | e <;> rw [e] <;> (try rw [hq2]) <;> simp)
    refine mz_ist1 d_IL_formula_28 (rfl) ?_
    have fin : ∀ (S' : mj_S) (cu1 sp1 n1 h1 : Nat) (fp1 : Int) (K1 : Nat → Nat) (acc1 : List Nat), mj_two cu1 sp1 → mj_fr S_25 S' [0] → mj_ob S' cu1 sp1 fp1 → mj_cc S_25 cu1 n1 h1 K1 acc1 → mj_sp S_25 sp1 → n1 ≤ 6 → h1 ≤ 1000 → acc1.length ≤ 500 → mj_IL S' L C fp1 n1 h1 K1 acc1 := by
      intro S' cu1 sp1 n1 h1 fp1 K1 acc1 htt p1 hob hcc hsp b1 b2 b3
      have htt' := htt
      unfold mj_two at htt'
      refine ⟨cu1, sp1, htt, p1.w.trans hw25, hob, hl25.fr p1 (by simp) (by simp), hk25.fr p1 (by simp), hcc.fr p1 (by simp; omega), ?_, b1, b2, b3⟩
      obtain ⟨K2, D2, n2, h2, z2, hs⟩ := hsp
      exact ⟨K2, D2, n2, h2, z2, hs.fr p1 (by simp; omega)⟩
    rcases g7 with ⟨sm, rfl, o1, o2, o3⟩ | ⟨E, ns, lst, le, ⟨l1, rfl, o1, o2, o3⟩ | ⟨l1, rfl, o1, o2, o3⟩⟩
    · refine mj_Ok.post (fun o S' hp => ?_) (good S_25 fp cu sp n h KM acc ht0 hw25 o1 o2)
      cases o with
      | inr x => exact hp
      | inl v =>
        obtain ⟨z, e, p1, p2, p3⟩ := hp
        exact ⟨z, e, f9.tr p1 (by simp) (by simp), Or.inr ⟨c_14, Or.inl ⟨sm, p2, fin S' cu sp n h (-1) KM acc ht0 p1 p3 o2 o3 hb1 hb2 hb3⟩⟩⟩
    · have h3 : mj_fr3 S_25 (fread L C).2.1 A' := g2.fr g6 (by simp; omega) (by simp; omega)
      refine mj_Ok.post (fun o S' hp => ?_) (bad (-6) S_25 fp (fread L C).2.1 A' (by decide) (by decide) hw25 o1 h3)
      cases o with
      | inr x => exact hp
      | inl v =>
        obtain ⟨z, e, p1, p2, p3⟩ := hp
        rw [r5] at p3
        exact ⟨z, e, f9.tr p1 (by simp) (by simp), Or.inr ⟨c_14, Or.inr ⟨E, lst, Or.inl ⟨l1, p2, fin S' cu sp n h L KM acc ht0 p1 p3 o2 o3 hb1 hb2 hb3⟩⟩⟩⟩
    · refine mj_Ok.post (fun o S' hp => ?_) (good S_25 fp cu sp _ _ _ E ht0 hw25 o1 o2)
      cases o with
      | inr x => exact hp
      | inl v =>
        obtain ⟨z, e, p1, p2, p3⟩ := hp
        exact ⟨z, e, f9.tr p1 (by simp) (by simp), Or.inr ⟨c_14, Or.inr ⟨E, lst, Or.inr ⟨l1, p2, fin S' cu sp _ _ (-1) _ E ht0 p1 p3 o2 o3 r7 (by have := r1 9 (by omega); omega) l1⟩⟩⟩⟩
end IL3
