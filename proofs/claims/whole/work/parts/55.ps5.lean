/-! the reference: parse -/
theorem tJ_atom0 {L : Nat} {C : Nat → Int} {n : Nat} {K F B RA RB BA : Nat → Int} {rm : Bool} (hz : (tAtom L C 0 (mj_tr0 n K F B RA RB BA rm)).1 = -1) : tJ (tAtom L C 0 (mj_tr0 n K F B RA RB BA rm)).2 ∧ tRm (tAtom L C 0 (mj_tr0 n K F B RA RB BA rm)).2 = true := by
  unfold mj_tr0 at hz ⊢
  by_cases q1 : ln_el L C ((0 : Nat) : Int) = -1 ∨ ln_el L C ((0 : Nat) : Int) = 9
  · rw [show tAtom L C 0 (0, K, F, mj_fl B 0 36, mj_fl RA (-1) 10, RB, BA, 0, -1, rm, 0) = (-2, (0, K, F, mj_fl B 0 36, mj_fl RA (-1) 10, RB, BA, 0, -1, rm, 0)) from if_pos q1] at hz
    exact absurd hz (by simp)
  · have re := ln_el_r L C ((0 : Nat) : Int)
    obtain ⟨e, he⟩ : ∃ e : Nat, ln_el L C ((0 : Nat) : Int) = e := ⟨(ln_el L C ((0 : Nat) : Int)).toNat, by omega⟩
    have het : (ln_el L C ((0 : Nat) : Int)).toNat = e := by omega
    have hA : tAtom L C 0 (0, K, F, mj_fl B 0 36, mj_fl RA (-1) 10, RB, BA, 0, -1, rm, 0) = (-1, (0 + 1, va_up K 0 e, va_up F 0 (mj_VAL e), mj_fl B 0 36, mj_fl RA (-1) 10, RB, BA, 0, ((0 : Nat) : Int), true, 0 + if mj_SND e = 0 then 1 else 2)) := by
      unfold tAtom
      simp only []
      rw [if_neg q1, if_neg (by omega), het, he, if_pos trivial, if_pos trivial]
    rw [hA]
    have z : ∀ x y, x < 6 → y < 6 → mj_fl B 0 36 (x * 6 + y) = 0 := fun x y hx hy => if_pos (by omega)
    refine ⟨⟨by omega, fun j hj => ?_, fun x y hx hy => by rw [z x y hx hy, z y x hy hx], fun x y hx hy _ => z x y hx hy, fun x hx => z x x hx hx⟩, rfl⟩
    have : j = 0 := by omega
    subst this
    rw [va_up_self, va_up_self, Int.toNat_natCast]
    have : mj_rs (mj_fl B 0 36) 0 = 0 := mj_sum_zero 6 (fun y hy => z 0 y (by omega) hy)
    omega
section PS5
variable {Γ : mj_G} {d L : Nat} {S0 : mj_S} {C : Nat → Int} {wr am hy sr tr rs fo : Int}
theorem m_Mo_parse {n0 : Nat} {K0 F0 B0 RA0 RB0 BA0 : Nat → Int} {rm0 : Bool} {Sg Bz PL RAz RBz : Nat → Int} (hw0 : S0.2.1 = 65) (hst : mo_st S0 0 L wr am hy sr tr rs fo 0) (hlc : mj_lc S0 C) (hL : L ≤ 60) (h48 : S0.1 51 = .inl (0, 6, .inl (mj_z Sg))) (h49 : S0.1 52 = .inl (0, 36, .inl (mj_z Bz))) (hBz : ∀ j, j < 36 → Bz j = 0) (h52 : S0.1 55 = .inl (0, 60, .inl (mj_z PL))) (h53 : S0.1 56 = .inl (0, 10, .inl (mj_z RAz))) (h54 : S0.1 57 = .inl (0, 10, .inl (mj_z RBz))) (hd : 2 ≤ d) :
    mj_Met Γ d y_Mo_parse M_Mo_parse [.ref 40] S0 0 0 (mj_I fun z S' =>
      ((tRead L C (mj_tr0 n0 K0 F0 B0 RA0 RB0 BA0 rm0)).1 ≠ -1 ∧ z = (tRead L C (mj_tr0 n0 K0 F0 B0 RA0 RB0 BA0 rm0)).1 ∧ psE S0 S' L (tAt (tRead L C (mj_tr0 n0 K0 F0 B0 RA0 RB0 BA0 rm0)).2 : Nat) am hy sr tr rs fo) ∨
      ((tRead L C (mj_tr0 n0 K0 F0 B0 RA0 RB0 BA0 rm0)).1 = -1 ∧ z = 0 ∧ psI S0 S' L wr am hy sr tr rs fo (tRead L C (mj_tr0 n0 K0 F0 B0 RA0 RB0 BA0 rm0)).2 ∧ tI L (tRead L C (mj_tr0 n0 K0 F0 B0 RA0 RB0 BA0 rm0)).2 ∧ tJ (tRead L C (mj_tr0 n0 K0 F0 B0 RA0 RB0 BA0 rm0)).2)) := by
  obtain ⟨t0, ht0⟩ : ∃ t0 : TS, t0 = mj_tr0 n0 K0 F0 B0 RA0 RB0 BA0 rm0 := ⟨_, rfl⟩
  have hti := fun hz => tI_atom0 (L := L) (C := C) (n := n0) (K := K0) (F := F0) (B := B0) (RA := RA0) (RB := RB0) (BA := BA0) (rm := rm0) hz
  have htj := fun hz => tJ_atom0 (L := L) (C := C) (n := n0) (K := K0) (F := F0) (B := B0) (RA := RA0) (RB := RB0) (BA := BA0) (rm := rm0) hz
  rw [← ht0] at hti htj ⊢
  obtain ⟨Q, hQ⟩ : ∃ Q : Int → mj_S → Prop, Q = (fun (z : Int) (S' : mj_S) =>
      ((tRead L C t0).1 ≠ -1 ∧ z = (tRead L C t0).1 ∧ psE S0 S' L (tAt (tRead L C t0).2 : Nat) am hy sr tr rs fo) ∨
      ((tRead L C t0).1 = -1 ∧ z = 0 ∧ psI S0 S' L wr am hy sr tr rs fo (tRead L C t0).2 ∧ tI L (tRead L C t0).2 ∧ tJ (tRead L C t0).2)) := ⟨_, rfl⟩
  rw [← hQ]
  have h1 : S0.1 40 = _ := hst
  refine mj_Met.of (by decide) ⟨rfl, rfl⟩ rfl rfl rfl ?_
  refine mz_iconst d_Mo_parse_0 ?_
  refine mz_ist1 d_Mo_parse_1 (rfl) ?_
  refine mz_iconst d_Mo_parse_2 ?_
  refine mz_ist2 d_Mo_parse_3 (rfl) ?_
  have fill : ∀ (q j : Nat) (S2 : mj_S) (T : Nat → Int), j + q = 10 → mj_fr S0 S2 [56] → S2.1 56 = .inl (0, 10, .inl (mj_z T)) → (∀ i, i < j → T i = -1) → mj_Ok Γ d M_Mo_parse 0 0 4 [.ref 40, .int (iZ 0), .int (iZ j), .retAddr 0, .retAddr 0, .retAddr 0, .retAddr 0, .retAddr 0, .retAddr 0, .retAddr 0, .retAddr 0, .retAddr 0, .retAddr 0] [] S2 (mj_I Q) := by
    intro q
    induction q with
    | zero =>
      intro j S2 T hj f2 t2 hT
      have m20 := f2.at h1 (by simp)
      have hw2 := f2.w.trans hw0
      have : j = 10 := by omega
      subst this
      have e0 : t0 = (0, K0, F0, mj_fl B0 0 36, mj_fl RA0 (-1) 10, RB0, BA0, 0, -1, rm0, 0) := ht0
      have hps : psI S0 S2 L wr am hy sr tr rs fo (0, K0, F0, mj_fl B0 0 36, mj_fl RA0 (-1) 10, RB0, BA0, 0, -1, rm0, 0) := by
        refine ⟨f2.tr (mj_fr.rf _ []) (by simp) (by simp), m20, ⟨Sg, f2.at h48 (by simp), fun j hj => absurd hj (Nat.not_lt_zero j)⟩, ⟨Bz, f2.at h49 (by simp), fun j hj => ?_⟩, ⟨PL, f2.at h52 (by simp), fun j hj => absurd hj (Nat.not_lt_zero j)⟩, ⟨T, t2, fun j hj => ?_⟩, RBz, f2.at h54 (by simp), fun j hj hne => ?_⟩
        · rw [hBz j hj]; exact (if_pos hj).symm
        · rw [hT j hj]; exact (if_pos hj).symm
        · exact absurd (if_pos hj) hne
      have hOne : tOne L C 0 0 (0, K0, F0, mj_fl B0 0 36, mj_fl RA0 (-1) 10, RB0, BA0, 0, -1, rm0, 0) = tAtom L C 0 t0 := by
        rw [e0]
        unfold tOne
        rw [if_neg (by omega)]
      refine mj_iload_n d_Mo_parse_4 rfl ?_
      refine mz_bipush d_Mo_parse_5 (by decide) ?_
      refine mz_icmp_ge 23 d_Mo_parse_7 (by decide) (by omega) (by omega) (fun c_7 => ?_) (fun c_7 => ?_)
      · refine mz_iconst d_Mo_parse_23 ?_
        refine mz_ist2 d_Mo_parse_24 (rfl) ?_
        refine mz_iconst d_Mo_parse_25 ?_
        refine mz_ist3 d_Mo_parse_26 (rfl) ?_
        refine mz_iconst d_Mo_parse_27 ?_
        refine mz_ist4 d_Mo_parse_28 (rfl) ?_
        refine mz_iconst d_Mo_parse_30 ?_
        refine mz_ist5 d_Mo_parse_31 (rfl) ?_
        refine ps_one (Γ := Γ) (S0 := S0) (S := S2) (C := C) (L := L) (wr := wr) (am := am) (hy := hy) (sr := sr) (tr := tr) (rs := rs) (fo := fo) (n := 0) (br := 0) (at_ := 0) (ph := 0) (K := K0) (F := F0) (B := mj_fl B0 0 36) (RA := mj_fl RA0 (-1) 10) (RB := RB0) (BA := BA0) (la := -1) (rm := rm0) (to := 0) rfl rfl rfl rfl rfl rfl rfl hw0 hlc hL (by omega) (by omega) (by omega) (Or.inl rfl) (by omega) (by omega) (by omega) (fun j hj => Or.inl (if_pos hj)) (fun j hj => by rw [show mj_fl B0 0 36 j = 0 from if_pos hj]; omega) (Or.inr (Or.inl rfl)) (Or.inr (Or.inr (Or.inl rfl))) (Or.inr (Or.inr (Or.inr rfl))) hps hd ?_ ?_
        · rw [hOne]
          intro hne S' hE
          rw [hQ]
          have hR : tRead L C t0 = tAtom L C 0 t0 := by unfold tRead; rw [if_neg hne]
          rw [hR]
          exact Or.inl ⟨hne, rfl, hE⟩
        · rw [hOne]
          intro hz S' y6 y7 y8 y9 y10 y11 y12 k6 k7 k8 k9 k10 k11 k12 hps2
          have hi1 := hti hz
          have hj1 := htj hz
          obtain ⟨t1, ht1⟩ : ∃ t1 : TS, t1 = (tAtom L C 0 t0).2 := ⟨_, rfl⟩
          have hR : tRead L C t0 = if (tLoop L C 60 t1).1 = -1 then (tEnd (tLoop L C 60 t1).2, (tLoop L C 60 t1).2) else tLoop L C 60 t1 := by
            unfold tRead
            rw [if_pos hz, ← ht1]
          rw [← ht1] at hi1 hj1 hps2 ⊢
          have w : mj_Ok Γ d M_Mo_parse 0 0 33 (psF t1 (if tRm t1 then 1 else 2) 0 y6 y7 y8 y9 y10 y11 y12) [] S' (mj_I Q) := by
            refine ps_loop hw0 hlc hL hd 60 t1 S' y6 y7 y8 y9 y10 y11 y12 k6 k7 k8 k9 k10 k11 k12 hi1 hj1.1 hps2 (by omega) (fun hne S3 hE => ?_) (fun hz3 hj3 S3 z6 z7 z8 z9 z10 z11 z12 l6 l7 l8 l9 l10 l11 l12 hps3 => ?_)
            · rw [if_neg hne] at hR
              rw [hQ, hR]
              exact Or.inl ⟨hne, rfl, hE⟩
            · rw [if_pos hz3] at hR
              have hi3 := tI_loop 60 t1 hi1 hz3
              have hat3 := tLoop_at 60 t1 hi1 (by omega) hz3
              obtain ⟨t3, ht3⟩ : ∃ t3 : TS, t3 = (tLoop L C 60 t1).2 := ⟨_, rfl⟩
              rw [← ht3] at hR hi3 hat3 hps3 hj3 ⊢
              have hga := hps3.ga
              have hps30 := hps3
              have hj30 := hj3
              have hi30 := hi3
              clear ht3
              obtain ⟨n, K, F, B, RA, RB, BA, br, la, rm, at_⟩ := t3
              have hat3 : at_ = L := hat3
              subst hat3
              obtain ⟨f3, hst3, -⟩ := hps3
              have h13 : S3.1 40 = _ := hst3
              have hw3 := f3.w.trans hw0
              obtain ⟨i1, i2, i3, i4, i5, i6, i7, i8, i9, i10⟩ := hi3
              obtain ⟨ph, hph⟩ : ∃ ph : Nat, ph = if rm then 1 else 2 := ⟨_, rfl⟩
              have hph2 : ph = 1 ∨ ph = 2 := by rw [hph]; cases rm <;> simp
              show mj_Ok Γ d M_Mo_parse 0 0 33 [.ref 40, .int (iZ br), .int (iZ ((if rm then 1 else 2 : Nat) : Int)), .int (iZ la), .int (iZ 0), .int (iZ at_), z6, z7, z8, z9, z10, z11, z12] [] S3 (mj_I Q)
              rw [← hph]
              refine mj_iload d_Mo_parse_33 rfl ?_
              refine mj_aload_n d_Mo_parse_35 rfl ?_
              refine mj_get (ci := 9) (j := 1) d_Mo_parse_36 rfl w_Mo_88 (by decide) (by omega) (by assumption) rfl ?_
              refine mz_icmp_ge 555 d_Mo_parse_39 (by decide) (by omega) (by omega) (fun c_39 => ?_) (fun c_39 => ?_)
              · refine mj_iload d_Mo_parse_555 rfl ?_
                refine mz_if_gt 573 d_Mo_parse_557 (by decide) (by omega) (fun c_557 => ?_) (fun c_557 => ?_)
                · omega
                · refine mj_iload_n d_Mo_parse_560 rfl ?_
                  refine mz_if_gt 573 d_Mo_parse_561 (by decide) (by omega) (fun c_561 => ?_) (fun c_561 => ?_)
                  · have hE : tEnd (n, K, F, B, RA, RB, BA, br, la, rm, at_) = -2 := by
                      show (if 0 < br then (-2 : Int) else _) = _
                      rw [if_pos (by omega)]
                    refine mj_aload_n d_Mo_parse_573 rfl ?_
                    refine mz_bipush d_Mo_parse_574 (by decide) ?_
                    refine mj_aload_n d_Mo_parse_576 rfl ?_
                    refine mj_get (ci := 9) (j := 1) d_Mo_parse_577 rfl w_Mo_88 (by decide) (by omega) (by assumption) rfl ?_
                    refine mz_callV2i (ci := 9) d_Mo_parse_580 (m_Mo_fault (d := 0) hw3 hst3) cw_Mo_fault lk_Mo_103 rfl rfl (by omega) (by assumption) (by omega) rfl (fun z_580 S_580 h_580 => ?_)
                    obtain ⟨q1, rfl, q3⟩ := h_580
                    refine mz_iret d_Mo_parse_583 rfl (rfl) ?_
                    rw [hQ, hR]
                    refine Or.inl ⟨by rw [hE]; simp, hE.symm, f3.tr q1 (by simp) (by simp), ⟨_, q3⟩, fun o ho o1 o2 => ?_⟩
                    obtain ⟨A, hA⟩ := hga o ho o1 o2
                    exact ⟨A, q1.at hA (by simp; omega)⟩
                  · refine mj_iload_n d_Mo_parse_564 rfl ?_
                    refine mz_if_eq 573 d_Mo_parse_565 (by decide) (by omega) (fun c_565 => ?_) (fun c_565 => ?_)
                    · omega
                    · refine mj_iload_n d_Mo_parse_568 rfl ?_
                      refine mz_iconst d_Mo_parse_569 ?_
                      refine mz_icmp_ne 584 d_Mo_parse_570 (by decide) (by omega) (by omega) (fun c_570 => ?_) (fun c_570 => ?_)
                      · refine mj_aload_n d_Mo_parse_584 rfl ?_
                        refine mz_callV0i (ci := 9) d_Mo_parse_585 (m_Mo_atEnd (d := 1) hw0 hL hi30 hj30 hps30 (by omega)) cw_Mo_atEnd lk_Mo_177 rfl rfl (by omega) (by assumption) (by omega) rfl (fun z_585 S_585 h_585 => ?_)
                        refine mz_iret d_Mo_parse_588 rfl (rfl) ?_
                        rw [hQ, hR]
                        rcases h_585 with z | ⟨z1, z2, z3⟩ | ⟨z1, z2, z3⟩
                        · have z : 0 < br := z
                          omega
                        · exact Or.inl ⟨z1, z2, z3⟩
                        · rw [z3]
                          exact Or.inr ⟨z1, z2, hps30, hi30, hj30⟩
                      · omega
              · omega
          rw [hj1.2] at w
          exact w
      · omega
    | succ q ih =>
      intro j S2 T hj f2 t2 hT
      have m20 := f2.at h1 (by simp)
      have hw2 := f2.w.trans hw0
      refine mj_iload_n d_Mo_parse_4 rfl ?_
      refine mz_bipush d_Mo_parse_5 (by decide) ?_
      refine mz_icmp_ge 23 d_Mo_parse_7 (by decide) (by omega) (by omega) (fun c_7 => ?_) (fun c_7 => ?_)
      · omega
      · refine mj_aload_n d_Mo_parse_10 rfl ?_
        refine mj_get (ci := 9) (j := 25) d_Mo_parse_11 rfl w_Mo_61 (by decide) (by omega) (by assumption) rfl ?_
        refine mj_iload_n d_Mo_parse_14 rfl ?_
        refine mz_iconst d_Mo_parse_15 ?_
        refine mz_iast d_Mo_parse_16 (by omega) (by assumption) (rfl) (by omega) (fun S_16 w_16 e_16 f_16 => ?_)
        refine mz_inc2 d_Mo_parse_17 (rfl) ?_
        refine mj_goto 4 d_Mo_parse_20 (by decide) ?_
        have w := ih (j + 1) S_16 _ (by omega) (f2.tr f_16 (by simp) (by simp)) e_16 (fun i hi => by
          by_cases e : i = j
          · subst e; rw [va_up_self]
          · rw [va_up_ne _ _ e]; exact hT i (by omega))
        rw [show ((j + 1 : Nat) : Int) = (j : Int) + 1 by omega] at w
        exact w
  exact fill 10 0 S0 RAz (by omega) (mj_fr.rf _ _) h53 (fun i hi => absurd hi (Nat.not_lt_zero i))
end PS5
