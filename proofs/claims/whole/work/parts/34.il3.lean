/-! the class itself: a formula read, a text read -/
/-- the elements of a formula's atoms, by their numbers -/
def ktk (c : Nat → Nat) (j : Nat) : Nat := ((tkA c 9 (0, fun _ => 0)).2 j).toNat
def tkG (p q : Nat × (Nat → Int)) : Prop := p.1 = q.1 ∧ ∀ j, j < p.1 → p.2 j = q.2 j ∧ 0 ≤ p.2 j ∧ p.2 j < 9
theorem tk1_g {e : Nat} (he : e < 9) : ∀ (m : Nat) (p q : Nat × (Nat → Int)), tkG p q → tkG (tk1 e m p) (tk1 e m q) ∧ (tk1 e m p).1 = p.1 + m := by
  intro m
  induction m with
  | zero => intro p q h; exact ⟨h, rfl⟩
  | succ m ih =>
    intro p q h
    rw [tk1, tk1]
    have w := ih (p.1 + 1, va_up p.2 p.1 e) (q.1 + 1, va_up q.2 q.1 e) ⟨by show p.1 + 1 = q.1 + 1; rw [h.1], fun j hj => by
      have hj : j < p.1 + 1 := hj
      show va_up p.2 p.1 (e : Int) j = va_up q.2 q.1 (e : Int) j ∧ _
      rw [← h.1]
      by_cases e1 : j = p.1
      · subst e1
        rw [va_up_self, va_up_self]
        show _ ∧ 0 ≤ va_up p.2 p.1 (e : Int) p.1 ∧ va_up p.2 p.1 (e : Int) p.1 < 9
        rw [va_up_self]
        omega
      · show _ ∧ 0 ≤ va_up p.2 p.1 (e : Int) j ∧ va_up p.2 p.1 (e : Int) j < 9
        rw [va_up_ne _ _ e1, va_up_ne _ _ e1]
        exact h.2 j (by omega)⟩
    refine ⟨w.1, ?_⟩
    rw [w.2]
    show p.1 + 1 + m = p.1 + (m + 1)
    omega
theorem tkA_g {c : Nat → Nat} : ∀ (m : Nat) (p q : Nat × (Nat → Int)), m ≤ 9 → tkG p q → tkG (tkA c m p) (tkA c m q) ∧ (tkA c m p).1 = p.1 + tkS c m := by
  intro m
  induction m with
  | zero => intro p q _ h; exact ⟨h, rfl⟩
  | succ m ih =>
    intro p q hm h
    rw [tkA, tkA, tkS]
    have w1 := tk1_g (e := 9 - (m + 1)) (by omega) (c (9 - (m + 1))) p q h
    have w2 := ih _ _ (by omega) w1.1
    refine ⟨w2.1, ?_⟩
    rw [w2.2, w1.2]
    omega
theorem ktk_spec {c : Nat → Nat} {K : Nat → Int} : (tkA c 9 (0, K)).1 = tkS c 9 ∧ ∀ j, j < tkS c 9 → (tkA c 9 (0, K)).2 j = ktk c j ∧ ktk c j < 9 := by
  have w := tkA_g (c := c) 9 (0, K) (0, fun _ => 0) (by omega) ⟨rfl, fun j hj => absurd hj (Nat.not_lt_zero j)⟩
  have e : (tkA c 9 (0, K)).1 = tkS c 9 := by rw [w.2]; show 0 + _ = _; omega
  refine ⟨e, fun j hj => ?_⟩
  obtain ⟨h1, h2, h3⟩ := w.1.2 j (by rw [e]; exact hj)
  unfold ktk
  rw [← h1]
  omega
theorem fread_ok {n : Nat} {C : Nat → Int} (hn : n ≤ 60) : (∀ j, j < 10 → (fread n C).2.2 j ≤ 99) ∧ ((fread n C).1 = -1 → (fread n C).2.1 = n ∧ 1 ≤ tkS (fread n C).2.2 9 ∧ tkS (fread n C).2.2 9 ≤ 6) ∧ -5 ≤ (fread n C).1 ∧ (fread n C).1 ≤ -1 := by
  have w := floop_ok (C := C) 60 0 (fun _ => 0) (Nat.zero_le n) (by omega) (fun _ _ => Nat.zero_le _)
  unfold fread
  by_cases q : n = 0
  · rw [if_pos q]
    exact ⟨fun _ _ => Nat.zero_le _, fun h => absurd h (by decide), by decide, by decide⟩
  · rw [if_neg q]
    by_cases q1 : (floop n C 60 0 (fun _ => 0)).1 = -1
    · rw [if_pos q1]
      refine ⟨w.2.1, fun h => ?_, ?_, ?_⟩
      · refine ⟨rfl, ?_⟩
        show 1 ≤ tkS (floop n C 60 0 fun _ => 0).2.2 9 ∧ tkS (floop n C 60 0 fun _ => 0).2.2 9 ≤ 6
        have h : (if tkS (floop n C 60 0 (fun _ => 0)).2.2 9 < 1 ∨ 6 < tkS (floop n C 60 0 (fun _ => 0)).2.2 9 then (-5 : Int) else -1) = -1 := h
        by_cases q2 : tkS (floop n C 60 0 (fun _ => 0)).2.2 9 < 1 ∨ 6 < tkS (floop n C 60 0 (fun _ => 0)).2.2 9
        · rw [if_pos q2] at h; exact absurd h (by decide)
        · omega
      · show (-5 : Int) ≤ if _ then (-5 : Int) else -1
        split <;> decide
      · show (if _ then (-5 : Int) else -1) ≤ (-1 : Int)
        split <;> decide
    · rw [if_neg q1]
      exact ⟨w.2.1, fun h => absurd h q1, by omega, by omega⟩
section IL3
variable {Γ : mj_G} {d L n h : Nat} {S : mj_S} {C : Nat → Int} {fp : Int} {KM : Nat → Nat} {acc : List Nat}
/-- what formula answers, and what the object is then -/
def mj_foP (S' : mj_S) (L : Nat) (C : Nat → Int) (n h : Nat) (KM : Nat → Nat) (acc : List Nat) (z : Int) : Prop :=
  ((fread L C).1 ≠ -1 ∧ z = (fread L C).1 ∧ mj_IL S' L C ((fread L C).2.1 : Nat) n h KM acc) ∨
  ((fread L C).1 = -1 ∧ ((mj_same n h KM (tkS (fread L C).2.2 9) ((fread L C).2.2 9) (ktk (fread L C).2.2) ∧ z = acc.length ∧ mj_IL S' L C (-1) n h KM acc) ∨
    ∃ E, mj_lst (tkS (fread L C).2.2 9) ((fread L C).2.2 9) (ktk (fread L C).2.2) E ∧ ((500 < E.length ∧ z = -6 ∧ mj_IL S' L C (L : Nat) n h KM acc) ∨ (E.length ≤ 500 ∧ z = E.length ∧ mj_IL S' L C (-1) (tkS (fread L C).2.2 9) ((fread L C).2.2 9) (ktk (fread L C).2.2) E))))
theorem m_IL_formula (hT : mj_tab Γ) (hI : mj_IL S L C fp n h KM acc) (hd : 202 ≤ d) : mj_Met Γ d y_IL_formula M_IL_formula [.ref 0] S 0 0 (mj_I fun z S' => mj_fr S S' mj_lo ∧ mj_foP S' L C n h KM acc z) := by
  obtain ⟨cu, sp, ht, hw, ho, hl, hk, hc, hs, hb1, hb2, hb3⟩ := hI
  have ht0 := ht
  unfold mj_two at ht
  have hq1 : sp = 27 ∨ sp = 27 := by omega
  have hq2 : cu = 24 := by omega
  have ho0 : S.1 0 = _ := ho
  obtain ⟨a0, A0, hf3⟩ := hk.1
  have q3 := hf3.1
  obtain ⟨r1, r2, r3, r4⟩ := fread_ok (C := C) hl.2.2.1
  refine mj_Met.of (by decide) ⟨rfl, rfl⟩ rfl rfl rfl ?_
  refine mj_aload_n d_IL_formula_0 rfl ?_
  refine mj_get (ci := 0) (j := 1) d_IL_formula_1 rfl w_IL_19 (by decide) (by omega) (by assumption) rfl ?_
  refine mj_aload_n d_IL_formula_4 rfl ?_
  refine mj_get (ci := 0) (j := 0) d_IL_formula_5 rfl w_IL_10 (by decide) (by omega) (by assumption) rfl ?_
  refine mz_callV1i (ci := 2) d_IL_formula_8 (m_Fr_readFrom (d := 3) hT hw hl hf3 (by omega)) cw_Fr_readFrom lk_IL_89 rfl rfl (by omega) (by assumption) (by omega) rfl (fun z_8 S_8 h_8 => ?_)
  obtain ⟨g1, A', hz, g2, g3⟩ := h_8
  subst hz
  have hw8 : S_8.2.1 = 62 := g1.w.trans hw
  have ho8 : S_8.1 0 = _ := g1.at ho0 (by simp)
  have hl8 : mj_ln S_8 L C := hl.fr g1 (by simp) (by simp)
  have hk8 : mj_wk S_8 := by
    obtain ⟨-, ⟨t, q2⟩, ⟨r, CF, RS, RE, q3, q4, q5, q6⟩, q7, ⟨V, GA, q8, q9, q10⟩, ⟨o9, K9, F9, B9, q11⟩, ⟨o8, K8, F8, B8, q12⟩⟩ := hk
    exact ⟨⟨_, _, g2⟩, ⟨t, q2.fr g1 (by simp)⟩, ⟨r, CF, RS, RE, g1.at q3 (by simp), g1.at q4 (by simp), g1.at q5 (by simp), g1.at q6 (by simp)⟩, q7.fr g1 (by simp) (by simp) (by simp), ⟨V, GA, g1.at q8 (by simp), g1.at q9 (by simp), g1.at q10 (by simp)⟩, ⟨o9, K9, F9, B9, q11.fr g1 (by simp)⟩, ⟨o8, K8, F8, B8, q12.fr g1 (by simp)⟩⟩
  have hc8 : mj_cc S_8 cu n h KM acc := hc.fr g1 (by simp; omega)
  have hs8 : mj_sp S_8 sp := by
    obtain ⟨K2, D2, n2, h2, z2, hs⟩ := hs
    exact ⟨K2, D2, n2, h2, z2, hs.fr g1 (by simp; omega)⟩
  have q31 := g2.1
  have bad : ∀ (z : Int) (S1 : mj_S) (fp1 : Int) (at1 : Nat) (A1 : Nat → Int), iR z → z ≠ -1 → S1.2.1 = 62 → mj_ob S1 cu sp fp1 → mj_fr3 S1 at1 A1 → mj_Ok Γ d M_IL_formula 0 0 36 [.ref 0, .int (iZ z)] [] S1 (mj_I fun r S' => mj_fr S1 S' [0] ∧ r = z ∧ mj_ob S' cu sp (at1 : Nat)) := by
    intro z S1 fp1 at1 A1 hz hz1 hw1 hob1 hfr1
    have q1 : S1.1 0 = _ := hob1
    have q2 := hfr1.1
    refine mj_aload_n d_IL_formula_36 rfl ?_
    refine mj_iload_n d_IL_formula_37 rfl ?_
    refine mz_iconst d_IL_formula_38 ?_
    refine mz_icmp_ne 46 d_IL_formula_39 (by decide) (by omega) (by omega) (fun c_39 => ?_) (fun c_39 => ?_)
    · refine mj_aload_n d_IL_formula_46 rfl ?_
      refine mj_get (ci := 0) (j := 1) d_IL_formula_47 rfl w_IL_19 (by decide) (by omega) (by assumption) rfl ?_
      refine mj_get (ci := 2) (j := 1) d_IL_formula_50 rfl w_IL_105 (by decide) (by omega) (by assumption) rfl ?_
      refine mz_put (ci := 0) (j := 9) d_IL_formula_53 rfl w_IL_72 (by decide) rfl (by omega) (by assumption) (Nat.le_of_ble_eq_true rfl) (mj_fit_int _) rfl (fun S_53 w_53 e_53 f_53 => ?_)
      refine mj_iload_n d_IL_formula_56 rfl ?_
      refine mz_iconst d_IL_formula_57 ?_
      refine mz_icmp_ne 71 d_IL_formula_58 (by decide) (by omega) (by omega) (fun c_58 => ?_) (fun c_58 => ?_)
      · refine mj_iload_n d_IL_formula_71 rfl ?_
        refine mz_iret d_IL_formula_72 rfl (rfl) ?_
        exact ⟨f_53, rfl, e_53⟩
      · exact absurd c_58 hz1
    · exact absurd c_39 hz1
  have good : ∀ (S1 : mj_S) (fp1 : Int) (cu1 sp1 n1 h1 : Nat) (K1 : Nat → Nat) (acc1 : List Nat), mj_two cu1 sp1 → S1.2.1 = 62 → mj_ob S1 cu1 sp1 fp1 → mj_cc S1 cu1 n1 h1 K1 acc1 → mj_Ok Γ d M_IL_formula 0 0 36 [.ref 0, .int (iZ (-1))] [] S1 (mj_I fun r S' => mj_fr S1 S' [0] ∧ r = acc1.length ∧ mj_ob S' cu1 sp1 (-1)) := by
    intro S1 fp1 cu1 sp1 n1 h1 K1 acc1 htt hw1 hob1 hcc1
    unfold mj_two at htt
    have q1 : S1.1 0 = _ := hob1
    obtain ⟨KC, D, hca, -, -⟩ := hcc1
    have q2 := hca.1
    refine mj_aload_n d_IL_formula_36 rfl ?_
    refine mj_iload_n d_IL_formula_37 rfl ?_
    refine mz_iconst d_IL_formula_38 ?_
    refine mz_icmp_ne 46 d_IL_formula_39 (by decide) (by omega) (by omega) (fun c_39 => ?_) (fun c_39 => ?_)
    · exact absurd rfl c_39
    · refine mz_iconst d_IL_formula_42 ?_
      refine mj_goto 53 d_IL_formula_43 (by decide) ?_
      refine mz_put (ci := 0) (j := 9) d_IL_formula_53 rfl w_IL_72 (by decide) rfl (by omega) (by assumption) (Nat.le_of_ble_eq_true rfl) (mj_fit_int _) rfl (fun S_53 w_53 e_53 f_53 => ?_)
      have q3 := f_53.at q2 (by simp; omega)
      refine mj_iload_n d_IL_formula_56 rfl ?_
      refine mz_iconst d_IL_formula_57 ?_
      refine mz_icmp_ne 71 d_IL_formula_58 (by decide) (by omega) (by omega) (fun c_58 => ?_) (fun c_58 => ?_)
      · exact absurd rfl c_58
      · refine mj_aload_n d_IL_formula_61 rfl ?_
        refine mj_get (ci := 0) (j := 7) d_IL_formula_62 rfl w_IL_56 (by decide) (by omega) (by assumption) rfl ?_
        refine mj_get (ci := 8) (j := 4) d_IL_formula_65 rfl w_IL_108 (by decide) (by omega) (by assumption) rfl ?_
        refine mj_goto 72 d_IL_formula_68 (by decide) ?_
        refine mz_iret d_IL_formula_72 rfl (rfl) ?_
        exact ⟨f_53, rfl, e_53⟩
  refine mz_ist1 d_IL_formula_11 (rfl) ?_
  refine mj_iload_n d_IL_formula_12 rfl ?_
  refine mz_iconst d_IL_formula_13 ?_
  refine mz_icmp_ne 36 d_IL_formula_14 (by decide) (by omega) (by omega) (fun c_14 => ?_) (fun c_14 => ?_)
  · refine mj_Ok.post (fun o S' hp => ?_) (bad (fread L C).1 S_8 fp (fread L C).2.1 A' (by omega) c_14 hw8 ho8 g2)
    cases o with
    | inr x => exact hp
    | inl v =>
      obtain ⟨z, e, p1, p2, p3⟩ := hp
      refine ⟨z, e, g1.tr p1 (by simp) (by simp), Or.inl ⟨c_14, p2, cu, sp, ht0, p1.w.trans hw8, p3, hl8.fr p1 (by simp) (by simp), hk8.fr p1 (by simp), hc8.fr p1 (by simp; omega), ?_, hb1, hb2, hb3⟩⟩
      obtain ⟨K2, D2, n2, h2, z2, hs⟩ := hs8
      exact ⟨K2, D2, n2, h2, z2, hs.fr p1 (by simp; omega)⟩
  · obtain ⟨r5, r6, r7⟩ := r2 c_14
    obtain ⟨K2, D2, n2, h2, z2, hs8⟩ := hs8
    have q32 := hs8.1
    refine mj_aload_n d_IL_formula_17 rfl ?_
    refine mj_get (ci := 0) (j := 8) d_IL_formula_18 rfl w_IL_60 (by decide) (by omega) (by assumption) rfl ?_
    refine mj_aload_n d_IL_formula_21 rfl ?_
    refine mj_get (ci := 0) (j := 1) d_IL_formula_22 rfl w_IL_19 (by decide) (by omega) (by assumption) rfl ?_
    refine mj_get (ci := 2) (j := 0) d_IL_formula_25 rfl w_IL_93 (by decide) (by omega) (by assumption) rfl ?_
    refine mz_callV1v (ci := 8) d_IL_formula_28 (m_Ca_take (d := 0) hw8 hs8 (by omega) (by omega) g2.2 g3 r7 (by have := r1 9 (by omega); omega)) cw_Ca_take lk_IL_97 rfl rfl (by omega) (by assumption) (by omega) rfl (fun S_28 h_28 => ?_)
    obtain ⟨g4, g5⟩ := h_28
    obtain ⟨k1, k2⟩ := ktk_spec (c := (fread L C).2.2) (K := K2)
    rw [k1] at g5
    have hw28 : S_28.2.1 = 62 := g4.w.trans hw8
    have ho28 : mj_ob S_28 cu sp fp := g4.at ho8 (by simp; omega)
    have hl28 : mj_ln S_28 L C := hl8.fr g4 (by simp; omega) (by simp; omega)
    have hk28 : mj_wk S_28 := hk8.fr g4 (by simp; omega)
    have hc28 : mj_cc S_28 cu n h KM acc := hc8.fr g4 (by simp; omega)
    have hs28 : mj_cc S_28 sp (tkS (fread L C).2.2 9) ((fread L C).2.2 9) (ktk (fread L C).2.2) [] := ⟨_, _, g5, k2, fun j _ hj => absurd hj (Nat.not_lt_zero j)⟩
    have q33 : S_28.1 0 = _ := ho28
    refine mj_aload_n d_IL_formula_31 rfl ?_
    refine mz_callV0i (ci := 0) d_IL_formula_32 (m_IL_listDraft (d := 201) hT ht0 hw28 ho28 hk28 hc28 hs28 hb1 hb2 ⟨r6, r7⟩ (by have := r1 9 (by omega); omega) (by omega)) cw_IL_listDraft lk_IL_101 rfl rfl (by omega) (by assumption) (by omega) rfl (fun z_32 S_32 h_32 => ?_)
    obtain ⟨g6, hk32, g7⟩ := h_32
    have hw32 : S_32.2.1 = 62 := g6.w.trans hw28
    have hl32 : mj_ln S_32 L C := hl28.fr g6 (by rcases hq1 with e | e <;> rw [e] <;> (try rw [hq2]) <;> simp) (by rcases hq1 with e | e <;> rw [e] <;> (try rw [hq2]) <;> simp)
    have f9 : mj_fr S S_32 mj_lo := (g1.tr g4 (l := mj_lo) (by simp) (by rcases hq1 with e | e <;> rw [e] <;> (try rw [hq2]) <;> simp)).tr g6 (by simp) (by rcases hq1 with e | e <;> rw [e] <;> (try rw [hq2]) <;> simp)
    refine mz_ist1 d_IL_formula_35 (rfl) ?_
    have fin : ∀ (S' : mj_S) (cu1 sp1 n1 h1 : Nat) (fp1 : Int) (K1 : Nat → Nat) (acc1 : List Nat), mj_two cu1 sp1 → mj_fr S_32 S' [0] → mj_ob S' cu1 sp1 fp1 → mj_cc S_32 cu1 n1 h1 K1 acc1 → mj_sp S_32 sp1 → n1 ≤ 6 → h1 ≤ 1000 → acc1.length ≤ 500 → mj_IL S' L C fp1 n1 h1 K1 acc1 := by
      intro S' cu1 sp1 n1 h1 fp1 K1 acc1 htt p1 hob hcc hsp b1 b2 b3
      have htt' := htt
      unfold mj_two at htt'
      refine ⟨cu1, sp1, htt, p1.w.trans hw32, hob, hl32.fr p1 (by simp) (by simp), hk32.fr p1 (by simp), hcc.fr p1 (by simp; omega), ?_, b1, b2, b3⟩
      obtain ⟨K2, D2, n2, h2, z2, hs⟩ := hsp
      exact ⟨K2, D2, n2, h2, z2, hs.fr p1 (by simp; omega)⟩
    rcases g7 with ⟨sm, rfl, o1, o2, o3⟩ | ⟨E, ns, lst, le, ⟨l1, rfl, o1, o2, o3⟩ | ⟨l1, rfl, o1, o2, o3⟩⟩
    · refine mj_Ok.post (fun o S' hp => ?_) (good S_32 fp cu sp n h KM acc ht0 hw32 o1 o2)
      cases o with
      | inr x => exact hp
      | inl v =>
        obtain ⟨z, e, p1, p2, p3⟩ := hp
        exact ⟨z, e, f9.tr p1 (by simp) (by simp), Or.inr ⟨c_14, Or.inl ⟨sm, p2, fin S' cu sp n h (-1) KM acc ht0 p1 p3 o2 o3 hb1 hb2 hb3⟩⟩⟩
    · have h3 : mj_fr3 S_32 (fread L C).2.1 A' := (g2.fr g4 (by simp; omega) (by simp; omega)).fr g6 (by simp; omega) (by simp; omega)
      refine mj_Ok.post (fun o S' hp => ?_) (bad (-6) S_32 fp (fread L C).2.1 A' (by decide) (by decide) hw32 o1 h3)
      cases o with
      | inr x => exact hp
      | inl v =>
        obtain ⟨z, e, p1, p2, p3⟩ := hp
        rw [r5] at p3
        exact ⟨z, e, f9.tr p1 (by simp) (by simp), Or.inr ⟨c_14, Or.inr ⟨E, lst, Or.inl ⟨l1, p2, fin S' cu sp n h L KM acc ht0 p1 p3 o2 o3 hb1 hb2 hb3⟩⟩⟩⟩
    · refine mj_Ok.post (fun o S' hp => ?_) (good S_32 fp cu sp _ _ _ E ht0 hw32 o1 o2)
      cases o with
      | inr x => exact hp
      | inl v =>
        obtain ⟨z, e, p1, p2, p3⟩ := hp
        exact ⟨z, e, f9.tr p1 (by simp) (by simp), Or.inr ⟨c_14, Or.inr ⟨E, lst, Or.inr ⟨l1, p2, fin S' cu sp _ _ (-1) _ E ht0 p1 p3 o2 o3 r7 (by have := r1 9 (by omega); omega) l1⟩⟩⟩⟩
end IL3
