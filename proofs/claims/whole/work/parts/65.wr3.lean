/-! the reference: write as a whole -/
theorem goI.congr {n : Nat} {g : GS} {RG RZ LA : Nat → Int} {dg : Nat} (h : goI n g RG LA dg) (hn : n ≤ 6) (he : ∀ j, j < 36 → RZ j = RG j) : goI n g RZ LA dg := by
  obtain ⟨h1, h2, h3, h4, h5, h6⟩ := h
  have e : ∀ x y, x < n → y < n → RZ (x * 6 + y) = RG (x * 6 + y) := fun x y hx hy => he _ (by omega)
  refine ⟨fun x y hx hy => ?_, fun x y hx hy => ?_, h3, fun d d1 d2 => ?_, fun x y hx hy d d1 d2 hd => ?_, h6⟩
  · rw [e x y hx hy, e y x hy hx]; exact h1 x y hx hy
  · rw [e x y hx hy]; exact h2 x y hx hy
  · obtain ⟨x, y, q1, q2, q3, q4, q5, q6, q7⟩ := h4 d d1 d2
    exact ⟨x, y, q1, q2, q3, q4, q5, by rw [e x y q1 q2]; exact q6, q7⟩
  · rw [e x y hx hy] at hd; exact h5 x y hx hy d d1 d2 hd
theorem bv_sym (c n x y : Nat) : bv c n x y = bv c n y x := by
  unfold bv
  by_cases q1 : y < x ∧ x < n
  · rw [if_pos q1, if_neg (by omega), if_pos q1]
  · rw [if_neg q1]
    by_cases q2 : x < y ∧ y < n
    · rw [if_pos q2, if_pos q2]
    · rw [if_neg q2, if_neg q2, if_neg q1]
theorem bv_lt (c n x y : Nat) : bv c n x y < 4 := by
  unfold bv
  split
  · exact dgt_lt _ _ _
  · split
    · exact dgt_lt _ _ _
    · decide
section WR3
variable {Γ : mj_G} {d L n h : Nat} {S : mj_S} {C : Nat → Int} {rf fp : Int} {KM : Nat → Nat} {acc : List Nat}
theorem m_Mo_write_no (hI : mo_IL S rf L C fp n h KM acc) {k : Int} (hk : iR k) (hno : ¬ (0 ≤ k ∧ k < acc.length)) (hd : 1 ≤ d) :
    mj_Met Γ d y_Mo_write M_Mo_write [.ref 40, .int (iZ k)] S 0 0 (mj_I fun z S' => mj_fr S S' [40] ∧ mo_IL S' 1 L C fp n h KM acc) := by
  have hI0 := hI
  obtain ⟨hw, hL, ⟨tr, rs, fo, sg, hst⟩, hl, ⟨El, h39, h39'⟩, ⟨Tl, h40, h40'⟩, hgb, hn6, hh, hal⟩ := hI
  have h1 : S.1 40 = _ := hst
  refine mj_Met.of (by decide) ⟨rfl, rfl⟩ rfl rfl rfl ?_
  refine mj_aload_n d_Mo_write_0 rfl ?_
  refine mj_aload_n d_Mo_write_1 rfl ?_
  refine mj_iload_n d_Mo_write_2 rfl ?_
  refine mz_callV1i (ci := 9) d_Mo_write_3 (m_Mo_isStructure (d := 0) hw hst (by omega) hk) cw_Mo_isStructure lk_Mo_193 rfl rfl (by omega) (by assumption) (by omega) rfl (fun z_3 S_3 h_3 => ?_)
  obtain ⟨e3, hz⟩ := h_3
  rw [e3]
  rw [if_neg hno] at hz
  subst hz
  refine mz_if_eq 13 d_Mo_write_6 (by decide) (by omega) (fun c_6 => ?_) (fun c_6 => ?_)
  · refine mz_iconst d_Mo_write_13 ?_
    refine mz_callV1i (ci := 9) d_Mo_write_14 (m_Mo_refused (d := 0) (x := 1) hw hst (by decide)) cw_Mo_refused lk_Mo_91 rfl rfl (by omega) (by assumption) (by omega) rfl (fun z_14 S_14 h_14 => ?_)
    obtain ⟨g1, hz, g2⟩ := h_14
    rw [if_pos (by decide)] at hz
    subst hz
    refine mz_if_eq 22 d_Mo_write_17 (by decide) (by omega) (fun c_17 => ?_) (fun c_17 => ?_)
    · omega
    · refine mz_iconst d_Mo_write_20 ?_
      refine mz_iret d_Mo_write_21 rfl (rfl) ?_
      exact ⟨g1, g1.w.trans hw, hL, ⟨_, _, _, _, g2⟩, ⟨g1.at hl.1 (by simp), hl.2⟩, ⟨El, g1.at h39 (by simp), h39'⟩, ⟨Tl, g1.at h40 (by simp), h40'⟩, hgb.fr g1 (by simp) (by simp), hn6, hh, hal⟩
  · omega
theorem m_Mo_write_ok {K B CF RS RE : Nat → Int} (hI : mo_IL S rf L C fp n h KM acc) (hn1 : 1 ≤ n) {i : Nat} (hi : i < acc.length) (hm : cOK n (n * (n - 1) / 2) KM (fun j => mj_VAL (KM j)) (acc.getD i 0)) (hKK : ∀ j, j < n → K j = KM j ∧ KM j < 9) (hBB : ∀ x y, x < 6 → y < 6 → B (x * 6 + y) = bv (acc.getD i 0) n x y) (hd : 4 ≤ d) :
    mj_Met Γ d y_Mo_write M_Mo_write [.ref 40, .int (iZ i)] S 0 0 (mj_I fun z S' => mj_fr S S' [40, 41, 55, 58, 59, 60, 61, 62, 63] ∧ z = (wrT n K B CF RS RE C).1 ∧ mo_IL S' 0 (wrT n K B CF RS RE C).1 (wrT n K B CF RS RE C).2 fp n h KM acc) := by
  obtain ⟨hw, hL, ⟨tr, rs, fo, sg, hst⟩, hl, ⟨El, h39, h39'⟩, ⟨Tl, h40, h40'⟩, hgb, hn6, hh, hal⟩ := hI
  have h1 : S.1 40 = _ := hst
  obtain ⟨Q, hQ⟩ : ∃ Q : Int → mj_S → Prop, Q = (fun (z : Int) (S' : mj_S) => mj_fr S S' [40, 41, 55, 58, 59, 60, 61, 62, 63] ∧ z = (wrT n K B CF RS RE C).1 ∧ mo_IL S' 0 (wrT n K B CF RS RE C).1 (wrT n K B CF RS RE C).2 fp n h KM acc) := ⟨_, rfl⟩
  rw [← hQ]
  have hj6 : ∀ j, j < 36 → j = (j / 6) * 6 + j % 6 := fun j hj => by omega
  have hB : ∀ j, j < 36 → 0 ≤ B j ∧ B j ≤ 3 := by
    intro j hj
    have e := hBB (j / 6) (j % 6) (by omega) (by omega)
    rw [← hj6 j hj] at e
    have := bv_lt (acc.getD i 0) n (j / 6) (j % 6)
    omega
  have hd0 : ∀ x, x < n → B (x * 6 + x) = 0 := by
    intro x hx
    rw [hBB x x (by omega) (by omega)]
    unfold bv
    rw [if_neg (by omega), if_neg (by omega)]
    rfl
  have hsy : ∀ x y, x < n → y < n → B (x * 6 + y) = B (y * 6 + x) := by
    intro x y hx hy
    rw [hBB x y (by omega) (by omega), hBB y x (by omega) (by omega), bv_sym]
  have hT : ∀ x y, x < n → y < n → mo_bd Tl i x y = B (x * 6 + y) := by
    intro x y hx hy
    rw [mo_bd_bv h40' hi hn6 hx hy, hBB x y (by omega) (by omega)]
  have hsum : ∀ a, a < n → mj_sum (fun x => B (a * 6 + x)) n ≤ 4 := by
    intro a ha
    obtain ⟨cd, c1', c2', -, c4'⟩ := hm
    have e : mj_sum (fun x => B (a * 6 + x)) n = mj_sum (fun x => (mB cd (a * 6 + x) : Int)) n := mj_sum_congr n (fun x hx => by
      show B (a * 6 + x) = (mB cd (a * 6 + x) : Int)
      rw [hBB a x (by omega) (by omega), c1', bv_mB hn6 c2' a x ha hx])
    have h4 : (rsp cd a (n * (n - 1) / 2) : Int) ≤ mj_VAL (KM a) := c4' a ha
    have := mj_VAL_r (KM a)
    rw [e, rs_mB cd n a hn6 ha]
    omega
  refine mj_Met.of (by decide) ⟨rfl, rfl⟩ rfl rfl rfl ?_
  refine mj_aload_n d_Mo_write_0 rfl ?_
  refine mj_aload_n d_Mo_write_1 rfl ?_
  refine mj_iload_n d_Mo_write_2 rfl ?_
  refine mz_callV1i (ci := 9) d_Mo_write_3 (m_Mo_isStructure (d := 0) hw hst (by omega) (by constructor <;> omega)) cw_Mo_isStructure lk_Mo_193 rfl rfl (by omega) (by assumption) (by omega) rfl (fun z_3 S_3 h_3 => ?_)
  obtain ⟨e3, hz⟩ := h_3
  rw [e3]
  rw [if_pos (by omega)] at hz
  subst hz
  refine mz_if_eq 13 d_Mo_write_6 (by decide) (by omega) (fun c_6 => ?_) (fun c_6 => ?_)
  · omega
  · refine mz_iconst d_Mo_write_9 ?_
    refine mj_goto 14 d_Mo_write_10 (by decide) ?_
    refine mz_callV1i (ci := 9) d_Mo_write_14 (m_Mo_refused (d := 0) (x := 0) hw hst (by decide)) cw_Mo_refused lk_Mo_91 rfl rfl (by omega) (by assumption) (by omega) rfl (fun z_14 S_14 h_14 => ?_)
    obtain ⟨g1, hz, g2⟩ := h_14
    rw [if_neg (by decide)] at hz
    subst hz
    have gb1 : mo_gb S_14 := hgb.fr g1 (by simp) (by simp)
    have hw1 := g1.w.trans hw
    obtain ⟨BF0, k55⟩ := gb1.1 58 (by omega) (by omega)
    obtain ⟨RZ0, k56⟩ := gb1.1 59 (by omega) (by omega)
    obtain ⟨IR0, k59⟩ := gb1.1 62 (by omega) (by omega)
    obtain ⟨LZ0, k60⟩ := gb1.1 63 (by omega) (by omega)
    have g20 : S_14.1 40 = _ := g2
    refine mz_if_eq 22 d_Mo_write_17 (by decide) (by omega) (fun c_17 => ?_) (fun c_17 => ?_)
    · refine mj_aload_n d_Mo_write_22 rfl ?_
      refine mj_iload_n d_Mo_write_23 rfl ?_
      refine mz_callV1v (ci := 9) d_Mo_write_24 (m_Mo_go (d := 2) (CF := CF) (RS := RS) (RE := RE) (B := B) hw1 g2 (g1.at h40 (by simp)) k55 k56 k59 k60 (by omega) ⟨hn1, hn6⟩ hT hB hd0 hsy (by omega)) cw_Mo_go lk_Mo_204 rfl rfl (by omega) (by assumption) (by omega) rfl (fun S_24 h_24 => ?_)
      obtain ⟨RG, LA, dg, hX, hIg, hSg⟩ := h_24
      -- what the class's going made
      have hfl : ∀ j, j < 6 → mj_fl CF (-2) 6 j = -2 := fun j hj => if_pos hj
      have hok : gOK n (mj_fl CF (-2) 6, 0, RS, RE) := ⟨fun j hj => Or.inl (hfl j (by omega)), by show 0 ≤ 9; decide, fun j j1 j2 => by have : j ≤ 0 := j2; omega⟩
      have hcnt := mj_cnt_le (mj_fl CF (-2) 6) (-2) n
      have hg0 := gtI_ok (B := B) 6 0 (-1) (mj_fl CF (-2) 6, 0, RS, RE) hok (by omega) (hfl 0 (by omega)) (by show mj_cnt (mj_fl CF (-2) 6) (-2) n ≤ 6; omega) (Or.inl rfl)
      obtain ⟨rk, hk1, hk2, hk3, _⟩ := gtI_rk (B := B) 6 0 (-1) (mj_fl CF (-2) 6, 0, RS, RE) (fun _ => 0) (Nat.le_refl _) hok (by omega) (hfl 0 (by omega)) (by show mj_cnt (mj_fl CF (-2) 6) (-2) n ≤ 6; omega) (Or.inl rfl) (fun b x hb hx hbx => by
        have hbx : mj_fl CF (-2) 6 b = x := hbx
        rw [hfl b (by omega)] at hbx
        omega)
      have hwr : wrT n K B CF RS RE C = ptI n K B (gtI n B 6 0 (-1) (mj_fl CF (-2) 6, 0, RS, RE)).1 (gtI n B 6 0 (-1) (mj_fl CF (-2) 6, 0, RS, RE)).2.2.1 (gtI n B 6 0 (-1) (mj_fl CF (-2) 6, 0, RS, RE)).2.2.2 (gtI n B 6 0 (-1) (mj_fl CF (-2) 6, 0, RS, RE)).2.1 7 0 (0, C) := rfl
      obtain ⟨g, hg⟩ : ∃ g : GS, g = gtI n B 6 0 (-1) (mj_fl CF (-2) 6, 0, RS, RE) := ⟨_, rfl⟩
      rw [← hg] at hX hIg hg0 hk1 hk3 hwr
      rw [ptI_succ] at hwr
      obtain ⟨f2, ⟨BF, b1, b2⟩, ⟨IR, i1, -⟩, ⟨RZ, r1, r2⟩, LZ, l1, -⟩ := hX
      have hIz := hIg.congr hn6 r2
      have hdgr := hSg.r hn6 hIg.2.2.2.2.2.2.2
      have hw2 := f2.w.trans hw1
      have f12 : mj_fr S S_24 [40, 58, 59, 62, 63] := g1.tr f2 (by simp) (by simp)
      have gb2 : mo_gb S_24 := by
        refine gb1.fr f2 (by simp) (fun o ho o1 o2 => ?_)
        simp only [List.mem_cons, List.not_mem_nil, or_false] at ho
        rcases ho with rfl | rfl | rfl | rfl
        · exact ⟨_, b1⟩
        · exact ⟨_, r1⟩
        · exact ⟨_, i1⟩
        · exact ⟨_, l1⟩
      have g30 : S_24.1 40 = _ := f2.at g2 (by simp)
      obtain ⟨DZ0, k57⟩ := gb2.1 60 (by omega) (by omega)
      have k57 : S_24.1 60 = .inl (0, 6, .inl (mj_z DZ0)) := k57
      obtain ⟨OZ0, k58⟩ := gb2.1 61 (by omega) (by omega)
      have k58 : S_24.1 61 = .inl (2, 6, .inl (mj_z OZ0)) := k58
      obtain ⟨PZ0, k52⟩ := gb2.1 55 (by omega) (by omega)
      have k52 : S_24.1 55 = .inl (0, 60, .inl (mj_z PZ0)) := k52
      refine mj_aload_n d_Mo_write_27 rfl ?_
      refine mz_iconst d_Mo_write_28 ?_
      refine mz_put (ci := 9) (j := 1) d_Mo_write_29 rfl w_Mo_88 (by decide) rfl (by omega) (by assumption) (Nat.le_of_ble_eq_true rfl) (mj_fit_int _) rfl (fun S_29 w_29 e_29 f_29 => ?_)
      refine mz_iconst d_Mo_write_32 ?_
      refine mz_ist2 d_Mo_write_33 (rfl) ?_
      have fill : ∀ (u j : Nat) (S2 : mj_S) (DZ OZ : Nat → Int), j + u = 6 → mj_fr S_24 S2 [40, 60, 61] → mo_st S2 0 ((0 : Nat) : Int) fp n h acc.length tr rs fo sg → S2.1 60 = .inl (0, 6, .inl (mj_z DZ)) → (∀ x, x < j → DZ x = -1) → S2.1 61 = .inl (2, 6, .inl (mj_z OZ)) → (∀ x, x < j → OZ x = 0) → mj_Ok Γ d M_Mo_write 0 0 34 [.ref 40, .int (iZ i), .int (iZ j), .retAddr 0, .retAddr 0] [] S2 (mj_I Q) := by
        intro u
        induction u with
        | zero =>
          intro j S2 DZ OZ hj f3 m3 d1 d2 o1 o2
          have : j = 6 := by omega
          subst this
          have m30 : S2.1 40 = _ := m3
          have hw3 := f3.w.trans hw2
          have f13 : mj_fr S S2 [40, 58, 59, 60, 61, 62, 63] := f12.tr f3 (by simp) (by simp)
          refine mj_iload_n d_Mo_write_34 rfl ?_
          refine mz_bipush d_Mo_write_35 (by decide) ?_
          refine mz_icmp_ge 60 d_Mo_write_37 (by decide) (by omega) (by omega) (fun c_37 => ?_) (fun c_37 => ?_)
          · have k52 := f3.at k52 (by simp)
            refine mj_aload_n d_Mo_write_60 rfl ?_
            refine mj_get (ci := 9) (j := 24) d_Mo_write_61 rfl w_Mo_58 (by decide) (by omega) (by assumption) rfl ?_
            refine mz_iconst d_Mo_write_64 ?_
            refine mz_iconst d_Mo_write_65 ?_
            refine mz_iast (j := 0) d_Mo_write_66 (by omega) (by assumption) (by omega) (by omega) (fun S_66 w_66 e_66 f_66 => ?_)
            refine mz_iconst d_Mo_write_67 ?_
            refine mz_ist2 d_Mo_write_68 (rfl) ?_
            have m40 := f_66.at m30 (by simp)
            have hw4 := f_66.w.trans hw3
            have f14 : mj_fr S S_66 [40, 55, 58, 59, 60, 61, 62, 63] := f13.tr f_66 (by simp) (by simp)
            have hlp : mo_lp S_66 (0, C) 0 fp n h acc.length tr rs fo sg := ⟨m40, f14.at hl.1 (by simp), hl.2⟩
            have hRz : ∀ x y, x < n → y < n → 0 ≤ RZ (x * 6 + y) ∧ RZ (x * 6 + y) ≤ 1000 := by
              intro x y hx hy
              have := hIz.2.1 x y hx hy
              omega
            have hRBz : ∀ x y, x < n → y < n → RZ (x * 6 + y) ≠ 0 → 0 < B (x * 6 + y) := by
              intro x y hx hy hne
              rw [r2 _ (by omega)] at hne
              exact hSg.2.2 x y hx hy hne
            have hmp : ∀ a, a < n → ∀ p, mpI n B RZ a p = prI B g.2.2.1 g.2.2.2 a g.2.1 1 p := fun a ha p => mp_pr9 hIz ha hsy p
            have r14 : S_66.1 59 = .inl (0, 36, .inl (mj_z RZ)) := (f3.tr f_66 (l := [40, 55, 60, 61]) (by simp) (by simp)).at r1 (by simp)
            refine mj_aload_n d_Mo_write_69 rfl ?_
            refine mj_iload_n d_Mo_write_70 rfl ?_
            refine mz_iconst d_Mo_write_71 ?_
            refine mz_callV2v (ci := 9) d_Mo_write_72 (m_Mo_putAtom (d := 3) (a := 0) hw4 hlp (f14.at h39 (by simp)) h39' (f14.at h40 (by simp)) r14 (by omega) hn6 (by omega) hT hB hRz hRBz (hsum 0 (by omega)) (by show 0 + 6 ≤ 60; omega) (by omega)) cw_Mo_putAtom lk_Mo_207 rfl rfl (by omega) (by assumption) (by omega) rfl (fun S_72 h_72 => ?_)
            obtain ⟨q1, q2, q3⟩ := h_72
            have eH : mpI n B RZ 0 (lnE (0, C) (KM 0)) = ptH K B g.2.2.1 g.2.2.2 g.2.1 0 (0, C) := by
              unfold ptH
              rw [hmp 0 (by omega), (hKK 0 (by omega)).1, Int.toNat_natCast]
            rw [eH] at q2 q3
            have q3 : (ptH K B g.2.2.1 g.2.2.2 g.2.1 0 (0, C)).1 ≤ 0 + 6 := q3
            have hcf1 : cF (va_up (fun _ => false) 0 true) n + 1 = n := by
              rw [cF_up (tk := fun _ => false) rfl n (by omega), cF_none]
            have fz : mj_fr S_24 S_72 [40, 41, 55, 60, 61] := (f3.tr f_66 (l := [40, 41, 55, 60, 61]) (by simp) (by simp)).tr q1 (by simp) (by simp)
            have w := wr_lvl (Γ := Γ) (d := d) (Q := Q) (S0 := S_24) (n := n) (i := i) (r := g.2.1) (T := Tl) (B := B) (RG := RZ) (El := El) (K := K) (CF := g.1) (RS := g.2.2.1) (RE := g.2.2.2) (BF := BF) (KM := KM) (rk := rk) (rf := 0) (wr := fp) (hy := h) (sr := acc.length) (tr := tr) (rs := rs) (fo := fo) (sg := sg) hw2 (f12.at h39 (by simp)) h39' (fun j hj => (hKK j hj).1) (f12.at h40 (by simp)) r1 b1 (fun j hj a => ?_) (fun j hj => ?_) (by omega) hn6 hT hB hRz hRBz hsum hmp (fun b x hb hx hbx => (hk1 b x hb hx hbx).2) (by omega) 6 0 0 (ptH K B g.2.2.1 g.2.2.2 g.2.1 0 (0, C)) (va_up (fun _ => false) 0 true) (fun _ => -1) (fun _ => false) (fun _ => 0) S_72 (.retAddr 0) (.retAddr 0) rfl rfl (by omega) (by omega) rfl (va_up_self _ _ _) rfl (fun c hc hca => ?_) ⟨fz, q2, ⟨DZ, q1.at (f_66.at d1 (by simp)) (by simp), fun j hj => d2 j (by omega)⟩, ⟨OZ, q1.at (f_66.at o1 (by simp)) (by simp), fun j hj => o2 j (by omega)⟩, ⟨_, q1.at e_66 (by simp), fun j hj => by rw [show j = 0 by omega, va_up_self]⟩, fun x hx _ => rfl, fun x y hx hy hxy hwx => ?_, by omega⟩ (fun S' wv' DN' IO' y3 y4 k3 k4 hX' _ _ => ?_)
            · exact w
            · rw [b2 j (by omega)]
              by_cases z : g.1 j = -2
              · rw [if_neg (fun y => y.2 z), z]
                omega
              · rw [if_pos ⟨hj, z⟩]
            · rw [b2 j hj]
              split
              · rename_i z
                rcases hg0.1.1 j z.1 with e | e | ⟨x, e, x1⟩ <;> rw [e]
                · decide
                · decide
                · constructor <;> omega
              · decide
            · have hca : g.1 c = ((0 : Nat) : Int) := hca
              by_cases e : c = 0
              · subst e
                rw [hk3] at hca
                omega
              · rw [va_up_ne _ _ e]
            · by_cases e : x = 0
              · subst e
                rw [hk3] at hxy
                omega
              · rw [va_up_ne _ _ e] at hwx
                exact absurd hwx (by decide)
            · rw [if_neg (by decide), ← hwr] at hX'
              obtain ⟨f5, m5, ⟨DZ5, d5, -⟩, ⟨OZ5, o5, -⟩, ⟨PZ5, p5, -⟩, -, -, I5⟩ := hX'
              have m50 : S'.1 40 = _ := m5.1
              have hw5 := f5.w.trans hw2
              have f15 : mj_fr S S' [40, 41, 55, 58, 59, 60, 61, 62, 63] := f12.tr f5 (by simp) (by simp)
              refine mj_iload_n d_Mo_write_75 rfl ?_
              refine mz_if_le 206 d_Mo_write_76 (by decide) (by omega) (fun c_76 => ?_) (fun c_76 => ?_)
              · refine mj_aload_n d_Mo_write_206 rfl ?_
                refine mj_get (ci := 9) (j := 1) d_Mo_write_207 rfl w_Mo_88 (by decide) (by omega) (by assumption) rfl ?_
                refine mz_iret d_Mo_write_210 rfl (rfl) ?_
                rw [hQ]
                refine ⟨f15, rfl, hw5, by omega, ⟨_, _, _, _, m5.1⟩, m5.2, ⟨El, f15.at h39 (by simp), h39'⟩, ⟨Tl, f15.at h40 (by simp), h40'⟩, ?_, hn6, hh, hal⟩
                refine gb2.fr f5 (by simp) (fun o ho o1 o2 => ?_)
                simp only [List.mem_cons, List.not_mem_nil, or_false] at ho
                have : o = 55 ∨ o = 60 ∨ o = 61 := by omega
                rcases this with rfl | rfl | rfl
                · exact ⟨_, p5⟩
                · exact ⟨_, d5⟩
                · exact ⟨_, o5⟩
              · omega
          · omega
        | succ u ih =>
          intro j S2 DZ OZ hj f3 m3 d1 d2 o1 o2
          have m30 : S2.1 40 = _ := m3
          have hw3 := f3.w.trans hw2
          refine mj_iload_n d_Mo_write_34 rfl ?_
          refine mz_bipush d_Mo_write_35 (by decide) ?_
          refine mz_icmp_ge 60 d_Mo_write_37 (by decide) (by omega) (by omega) (fun c_37 => ?_) (fun c_37 => ?_)
          · omega
          · refine mj_aload_n d_Mo_write_40 rfl ?_
            refine mj_get (ci := 9) (j := 29) d_Mo_write_41 rfl w_Mo_73 (by decide) (by omega) (by assumption) rfl ?_
            refine mj_iload_n d_Mo_write_44 rfl ?_
            refine mz_iconst d_Mo_write_45 ?_
            refine mz_iast d_Mo_write_46 (by omega) (by assumption) (rfl) (by omega) (fun S_46 w_46 e_46 f_46 => ?_)
            have m40 := f_46.at m30 (by simp)
            have o1 := f_46.at o1 (by simp)
            refine mj_aload_n d_Mo_write_47 rfl ?_
            refine mj_get (ci := 9) (j := 30) d_Mo_write_48 rfl w_Mo_76 (by decide) (by omega) (by assumption) rfl ?_
            refine mj_iload_n d_Mo_write_51 rfl ?_
            refine mz_iconst d_Mo_write_52 ?_
            refine mz_zast d_Mo_write_53 (by omega) (by assumption) (rfl) (by omega) (by decide) (fun S_53 w_53 e_53 f_53 => ?_)
            refine mz_inc2 d_Mo_write_54 (rfl) ?_
            refine mj_goto 34 d_Mo_write_57 (by decide) ?_
            have f4 : mj_fr S2 S_53 [60, 61] := f_46.tr f_53 (by simp) (by simp)
            have up : ∀ (A : Nat → Int) (v : Int), (∀ x, x < j → A x = v) → ∀ x, x < j + 1 → va_up A j v x = v := by
              intro A v hA x hx
              by_cases e : x = j
              · subst e; rw [va_up_self]
              · rw [va_up_ne _ _ e]; exact hA x (by omega)
            have w := ih (j + 1) S_53 _ _ (by omega) (f3.tr f4 (by simp) (by simp)) (f_53.at m40 (by simp)) (f_53.at e_46 (by simp)) (up DZ (-1) d2) e_53 (up OZ 0 o2)
            rw [show ((j + 1 : Nat) : Int) = (j : Int) + 1 by omega] at w
            exact w
      exact fill 6 0 S_29 DZ0 OZ0 (by omega) (f_29.tr (mj_fr.rf _ []) (by simp) (by simp)) e_29 (f_29.at k57 (by simp)) (fun x hx => absurd hx (Nat.not_lt_zero x)) (f_29.at k58 (by simp)) (fun x hx => absurd hx (Nat.not_lt_zero x))
    · omega
end WR3
