/-! a molecule built from a code -/
theorem mj_sum_congr {f g : Nat → Int} : ∀ m, (∀ y, y < m → f y = g y) → mj_sum f m = mj_sum g m := by
  intro m
  induction m with
  | zero => intro _; rfl
  | succ m ih => intro h; rw [mj_sum, mj_sum, ih (fun y hy => h y (by omega)), h m (by omega)]
theorem mj_sum_up {f : Nat → Int} {i : Nat} {v : Int} : ∀ m, i < m → mj_sum (va_up f i v) m = mj_sum f m + (v - f i) := by
  intro m
  induction m with
  | zero => intro h; exact absurd h (Nat.not_lt_zero i)
  | succ m ih =>
    intro h
    rw [mj_sum, mj_sum]
    by_cases e : i = m
    · subst e
      rw [va_up_self, mj_sum_congr i (f := va_up f i v) (g := f) (fun y hy => va_up_ne _ _ (by omega))]
      omega
    · rw [ih (by omega), va_up_ne _ _ (by omega)]
      omega
/-- the bonds of atom j -/
def mj_rs (B : Nat → Int) (j : Nat) : Int := mj_sum (fun y => B (j * 6 + y)) 6
theorem bset_xy {B : Nat → Int} {a b x y : Nat} {v : Int} (ha : a < 6) (hb : b < 6) (hx : x < 6) (hy : y < 6) : bset B a b v (x * 6 + y) = if (x = a ∧ y = b) ∨ (x = b ∧ y = a) then v else B (x * 6 + y) := by
  unfold bset
  by_cases q1 : x * 6 + y = b * 6 + a
  · rw [q1, va_up_self, if_pos (by omega)]
  · rw [va_up_ne _ _ q1]
    by_cases q2 : x * 6 + y = a * 6 + b
    · rw [q2, va_up_self, if_pos (by omega)]
    · rw [va_up_ne _ _ q2, if_neg (by omega)]
theorem bind_inv {F B : Nat → Int} {a b : Nat} {v : Int} (ha : a < 6) (hb : b < 6) (hab : a ≠ b) (hs : B (b * 6 + a) = B (a * 6 + b)) (j : Nat) (hj : j < 6) : mbind F B a b v j + mj_rs (bset B a b v) j = F j + mj_rs B j := by
  rw [mbind_eq hab]
  unfold mj_rs
  by_cases q1 : j = a
  · subst q1
    rw [if_pos (Or.inl rfl), mj_sum_congr 6 (g := va_up (fun y => B (j * 6 + y)) b v) (fun y hy => ?_), mj_sum_up 6 hb]
    · omega
    · rw [bset_xy ha hb hj hy]
      by_cases e : y = b
      · subst e; rw [va_up_self, if_pos (Or.inl ⟨rfl, rfl⟩)]
      · rw [va_up_ne _ _ e, if_neg (by omega)]
  · by_cases q2 : j = b
    · subst q2
      rw [if_pos (Or.inr rfl), mj_sum_congr 6 (g := va_up (fun y => B (j * 6 + y)) a v) (fun y hy => ?_), mj_sum_up 6 ha]
      · show F j - (v - B (a * 6 + j)) + (mj_sum (fun y => B (j * 6 + y)) 6 + (v - B (j * 6 + a))) = _
        rw [hs]
        omega
      · rw [bset_xy ha hb hj hy]
        by_cases e : y = a
        · subst e; rw [va_up_self, if_pos (Or.inr ⟨rfl, rfl⟩)]
        · rw [va_up_ne _ _ e, if_neg (by omega)]
    · rw [if_neg (by omega), mj_sum_congr 6 (g := fun y => B (j * 6 + y)) (fun y hy => ?_)]
      · omega
      · rw [bset_xy ha hb hj hy, if_neg (by omega)]
/-- the number of bonds between a and b < a in a code -/
def dgt (c a b : Nat) : Nat := c / 2 ^ mj_sh a / 4 ^ (a - 1 - b) % 4
def bv (c n x y : Nat) : Nat := if y < x ∧ x < n then dgt c x y else if x < y ∧ y < n then dgt c y x else 0
theorem bv_succ (c a x y : Nat) : bv c (a + 1) x y = if x = a ∧ y < a then dgt c a y else if y = a ∧ x < a then dgt c a x else bv c a x y := by
  unfold bv
  by_cases q1 : x = a ∧ y < a
  · refine Eq.trans (if_pos (by omega)) (Eq.trans ?_ (if_pos q1).symm)
    rw [q1.1]
  · refine Eq.trans ?_ (if_neg q1).symm
    by_cases q2 : y = a ∧ x < a
    · refine Eq.trans (if_neg (by omega)) (Eq.trans (if_pos (by omega)) (Eq.trans ?_ (if_pos q2).symm))
      rw [q2.1]
    · refine Eq.trans ?_ (if_neg q2).symm
      by_cases q3 : y < x ∧ x < a
      · exact Eq.trans (if_pos (by omega)) (if_pos q3).symm
      · refine Eq.trans (if_neg (by omega)) (Eq.trans ?_ (if_neg q3).symm)
        by_cases q4 : x < y ∧ y < a
        · exact Eq.trans (if_pos (by omega)) (if_pos q4).symm
        · exact Eq.trans (if_neg (by omega)) (if_neg q4).symm
theorem dgt_lt (c a b : Nat) : dgt c a b < 4 := Nat.mod_lt _ (by decide)
section MB
variable {Γ : mj_G} {d o n : Nat} {S : mj_S} {K F B : Nat → Int}
theorem m_Ml_build (hT : mj_tab Γ) (hw : S.2.1 = 65) (h : mj_ml S o n K F B) {ca m hy z i c : Nat} {CK CD : Nat → Int} (hc : mj_ca S ca CK CD m hy z) (hdis : ca + 2 < o ∨ o + 3 < ca) (hm : 1 ≤ m ∧ m ≤ 6) (hK : ∀ j, j < m → ∃ k : Nat, k < 9 ∧ CK j = k) (hi : i < 500) (hD : CD i = c) (hcl : c < 2 ^ 30) (hd : 3 ≤ d) :
    mj_Met Γ d y_Ml_build M_Ml_build [.ref o, .ref ca, .int (iZ i)] S 0 0 (mj_V fun S' => mj_fr S S' [o, o + 1, o + 2, o + 3] ∧ ∃ K' F' B', mj_ml S' o m K' F' B' ∧ (∀ j, j < m → K' j = CK j) ∧ (∀ x y, x < 6 → y < 6 → B' (x * 6 + y) = bv c m x y) ∧ ∀ j, j < m → F' j + mj_rs B' j = mj_VAL (CK j).toNat) := by
  have m1 := h.1
  have m5 := h.2.2.2.2
  have c62 := hc.2.2.2
  refine mj_Met.of (by decide) ⟨rfl, rfl⟩ rfl rfl rfl ?_
  refine mj_aload_n d_Ml_build_0 rfl ?_
  refine mj_aload_n d_Ml_build_1 rfl ?_
  refine mz_callV1v (ci := 4) d_Ml_build_2 (m_Ml_addAtomsOf (d := 2) hT hw h hc hdis hm.2 hK (by omega)) cw_Ml_addAtomsOf lk_Ml_45 rfl rfl (by omega) (by assumption) (by omega) rfl (fun S_2 h_2 => ?_)
  obtain ⟨g1, K1, F1, hm1, hKF⟩ := h_2
  have hw2 := g1.w
  have hc2 : mj_ca S_2 ca CK CD m hy z := hc.fr g1 (by simp; omega)
  have c1 := hc2.1
  have c3 := hc2.2.2.1
  refine mj_aload_n d_Ml_build_5 rfl ?_
  refine mj_get (ci := 8) (j := 1) d_Ml_build_6 rfl w_Ml_49 (by decide) (by omega) (by assumption) rfl ?_
  refine mj_iload_n d_Ml_build_9 rfl ?_
  refine mz_iald d_Ml_build_10 (by omega) (by assumption) (rfl) (by omega) ?_
  rw [hD]
  refine mz_ist3 d_Ml_build_11 (rfl) ?_
  refine mz_iconst d_Ml_build_12 ?_
  refine mz_ist4 d_Ml_build_13 (rfl) ?_
  have loop : ∀ (q a : Nat) (S1 : mj_S) (F2 B2 : Nat → Int), a + q = m → 1 ≤ a → mj_fr S S1 [o, o + 1, o + 2, o + 3] → mj_ml S1 o m K1 F2 B2 → (∀ x y, x < 6 → y < 6 → B2 (x * 6 + y) = bv c a x y) → (∀ j, j < m → F2 j + mj_rs B2 j = mj_VAL (CK j).toNat) → ∀ x5 x6 : Value, x5.category = 1 → x6.category = 1 → mj_Ok Γ d M_Ml_build 0 0 15 [.ref o, .ref ca, .int (iZ i), .int (iZ c), .int (iZ a), x5, x6] [] S1
      (mj_V fun S' => mj_fr S S' [o, o + 1, o + 2, o + 3] ∧ ∃ K' F' B', mj_ml S' o m K' F' B' ∧ (∀ j, j < m → K' j = CK j) ∧ (∀ x y, x < 6 → y < 6 → B' (x * 6 + y) = bv c m x y) ∧ ∀ j, j < m → F' j + mj_rs B' j = mj_VAL (CK j).toNat) := by
    intro q
    induction q with
    | zero =>
      intro a S1 F2 B2 ha ha1 f1 hml hB hF x5 x6 hx5 hx6
      have hw1 := f1.w
      have m1' := hml.1
      refine mj_iload d_Ml_build_15 rfl ?_
      refine mj_aload_n d_Ml_build_17 rfl ?_
      refine mj_get (ci := 4) (j := 3) d_Ml_build_18 rfl w_Ml_21 (by decide) (by omega) (by assumption) rfl ?_
      refine mz_icmp_ge 74 d_Ml_build_21 (by decide) (by omega) (by omega) (fun c_21 => ?_) (fun c_21 => ?_)
      · refine mz_vret d_Ml_build_74 rfl ?_
        rw [show a = m by omega] at hB
        exact ⟨f1, K1, F2, B2, hml, fun j hj => (hKF j hj).1, hB, hF⟩
      · omega
    | succ q ih =>
      intro a S1 F2 B2 ha ha1 f1 hml hB hF x5 x6 hx5 hx6
      have hw1 := f1.w
      have m1' := hml.1
      have hsh := mj_sh_r a (by omega)
      refine mj_iload d_Ml_build_15 rfl ?_
      refine mj_aload_n d_Ml_build_17 rfl ?_
      refine mj_get (ci := 4) (j := 3) d_Ml_build_18 rfl w_Ml_21 (by decide) (by omega) (by assumption) rfl ?_
      refine mz_icmp_ge 74 d_Ml_build_21 (by decide) (by omega) (by omega) (fun c_21 => ?_) (fun c_21 => ?_)
      · omega
      · refine mj_iload_n d_Ml_build_24 rfl ?_
        refine mj_iload d_Ml_build_25 rfl ?_
        refine mz_callSN1i d_Ml_build_27 (m_IL_rowShift (d := 0) (by omega)) cw_IL_rowShift lk_Ml_52 (by omega) rfl (fun z_27 S_27 h_27 => ?_)
        obtain ⟨rfl, rfl⟩ := h_27
        rw [mj_sh_i a (by omega)]
        refine mz_ishr d_Ml_build_30 (rfl) (rfl) (by omega) (by omega) ?_
        refine mz_ist5 d_Ml_build_31 (by unfold mj_c1; simp only [List.all_cons, hx5, hx6]; rfl) ?_
        refine mj_iload d_Ml_build_33 rfl ?_
        refine mz_iconst d_Ml_build_35 ?_
        refine mz_isub d_Ml_build_36 ?_
        refine mz_ist6 d_Ml_build_37 (by unfold mj_c1; simp only [List.all_cons, hx6]; rfl) ?_
        have inner : ∀ (b : Nat) (S2 : mj_S) (F3 B3 : Nat → Int) (r : Nat), b ≤ a → r = c / 2 ^ mj_sh a / 4 ^ (a - b) → r ≤ c → mj_fr S S2 [o, o + 1, o + 2, o + 3] → mj_ml S2 o m K1 F3 B3 → (∀ x y, x < 6 → y < 6 → B3 (x * 6 + y) = if (x = a ∧ b ≤ y ∧ y < a) then dgt c a y else if (y = a ∧ b ≤ x ∧ x < a) then dgt c a x else bv c a x y) → (∀ j, j < m → F3 j + mj_rs B3 j = mj_VAL (CK j).toNat) →
            mj_Ok Γ d M_Ml_build 0 0 39 [.ref o, .ref ca, .int (iZ i), .int (iZ c), .int (iZ a), .int (iZ r), .int (iZ ((b : Int) - 1))] [] S2
              (mj_V fun S' => mj_fr S S' [o, o + 1, o + 2, o + 3] ∧ ∃ K' F' B', mj_ml S' o m K' F' B' ∧ (∀ j, j < m → K' j = CK j) ∧ (∀ x y, x < 6 → y < 6 → B' (x * 6 + y) = bv c m x y) ∧ ∀ j, j < m → F' j + mj_rs B' j = mj_VAL (CK j).toNat) := by
          intro b
          induction b with
          | zero =>
            intro S2 F3 B3 r hb hr hrc f2 hml3 hB3 hF3
            refine mj_iload d_Ml_build_39 rfl ?_
            refine mz_if_lt 68 d_Ml_build_41 (by decide) (by omega) (fun c_41 => ?_) (fun c_41 => ?_)
            · refine mz_inc4 d_Ml_build_68 (rfl) ?_
              refine mj_goto 15 d_Ml_build_71 (by decide) ?_
              refine ih (a + 1) S2 F3 B3 (by omega) (by omega) f2 hml3 (fun x y hx hy => ?_) hF3 _ _ rfl rfl
              rw [hB3 x y hx hy, bv_succ]
              refine congrArg (fun n : Nat => (n : Int)) ?_
              by_cases q1 : x = a ∧ y < a
              · exact Eq.trans (if_pos (by omega)) (if_pos q1).symm
              · refine Eq.trans (if_neg (by omega)) (Eq.trans ?_ (if_neg q1).symm)
                by_cases q2 : y = a ∧ x < a
                · exact Eq.trans (if_pos (by omega)) (if_pos q2).symm
                · exact Eq.trans (if_neg (by omega)) (if_neg q2).symm
            · omega
          | succ b ih2 =>
            intro S2 F3 B3 r hb hr hrc f2 hml3 hB3 hF3
            have hw3 := f2.w
            have m1'' := hml3.1
            have hr4 : r % 2 ^ 2 = dgt c a b := by
              unfold dgt
              rw [hr, show a - 1 - b = a - (b + 1) by omega]
            have hrd : r / 2 ^ 2 = c / 2 ^ mj_sh a / 4 ^ (a - b) := by
              rw [hr, Nat.div_div_eq_div_mul (c / 2 ^ mj_sh a), show a - b = a - (b + 1) + 1 by omega]
              rfl
            have hrl : r / 2 ^ 2 ≤ c := Nat.le_trans (Nat.div_le_self _ _) hrc
            have hdl := dgt_lt c a b
            refine mj_iload d_Ml_build_39 rfl ?_
            refine mz_if_lt 68 d_Ml_build_41 (by decide) (by omega) (fun c_41 => ?_) (fun c_41 => ?_)
            · omega
            · refine mj_aload_n d_Ml_build_44 rfl ?_
              refine mj_iload d_Ml_build_45 rfl ?_
              refine mj_iload d_Ml_build_47 rfl ?_
              rw [show ((b + 1 : Nat) : Int) - 1 = (b : Int) by omega]
              refine mj_iload d_Ml_build_49 rfl ?_
              refine mz_iconst d_Ml_build_51 ?_
              refine mz_iand (q := 2) d_Ml_build_52 (rfl) (rfl) (by omega) (by omega) ?_
              rw [hr4]
              refine mz_callV3v (ci := 4) d_Ml_build_53 (m_Ml_bind (d := 1) (by omega) hml3 (by omega) (by omega) (by omega)) cw_Ml_bind lk_Ml_56 rfl rfl (by omega) (by assumption) (by omega) rfl (fun S_53 h_53 => ?_)
              obtain ⟨g3, g4⟩ := h_53
              refine mj_iload d_Ml_build_56 rfl ?_
              refine mz_iconst d_Ml_build_58 ?_
              refine mz_ishr (s := 2) d_Ml_build_59 (rfl) (rfl) (by omega) (by omega) ?_
              refine mz_ist5 d_Ml_build_60 (rfl) ?_
              refine mz_inc6 d_Ml_build_62 (rfl) ?_
              refine mj_goto 39 d_Ml_build_65 (by decide) ?_
              have hz1 : B3 (a * 6 + b) = 0 := by
                rw [hB3 a b (by omega) (by omega), if_neg (by omega), if_neg (by omega)]
                unfold bv
                rw [if_neg (by omega), if_neg (by omega)]
                rfl
              have hz2 : B3 (b * 6 + a) = 0 := by
                rw [hB3 b a (by omega) (by omega), if_neg (by omega), if_neg (by omega)]
                unfold bv
                rw [if_neg (by omega), if_neg (by omega)]
                rfl
              have w := ih2 S_53 (mbind F3 B3 a b (dgt c a b : Nat)) (bset B3 a b (dgt c a b : Nat)) (r / 2 ^ 2) (by omega) hrd hrl (f2.tr g3 (by simp) (by simp)) g4 (fun x y hx hy => by
                rw [bset_xy (by omega) (by omega) hx hy]
                by_cases q1 : (x = a ∧ y = b) ∨ (x = b ∧ y = a)
                · rw [if_pos q1]
                  rcases q1 with q1 | q1
                  · rw [if_pos (by omega), q1.2]
                  · rw [if_neg (by omega), if_pos (by omega), q1.1]
                · rw [if_neg q1, hB3 x y hx hy]
                  refine congrArg (fun n : Nat => (n : Int)) ?_
                  by_cases q2 : x = a ∧ b + 1 ≤ y ∧ y < a
                  · exact Eq.trans (if_pos q2) (if_pos (by omega)).symm
                  · refine Eq.trans (if_neg q2) (Eq.trans ?_ (if_neg (by omega)).symm)
                    by_cases q3 : y = a ∧ b + 1 ≤ x ∧ x < a
                    · exact Eq.trans (if_pos q3) (if_pos (by omega)).symm
                    · exact Eq.trans (if_neg q3) (if_neg (by omega)).symm) (fun j hj => by
                rw [bind_inv (by omega) (by omega) (by omega) (by rw [hz1, hz2]) j (by omega)]
                exact hF3 j hj)
              rw [show (b : Int) + -1 = (b : Int) - 1 by omega]
              exact w
        have w := inner a S_27 F2 B2 (c / 2 ^ mj_sh a) (Nat.le_refl _) (by rw [Nat.sub_self]; simp) (Nat.div_le_self _ _) f1 hml (fun x y hx hy => by
          rw [if_neg (by omega), if_neg (by omega)]
          exact hB x y hx hy) hF
        exact w
  refine loop (m - 1) 1 S_2 F1 _ (by omega) (by omega) (g1.tr (mj_fr.rf _ []) (by simp) (by simp)) hm1 (fun x y hx hy => ?_) (fun j hj => ?_) _ _ rfl rfl
  · have e1 : mj_fl B 0 36 (x * 6 + y) = 0 := by unfold mj_fl; rw [if_pos (by omega)]
    rw [e1]
    unfold bv
    rw [if_neg (by omega), if_neg (by omega)]
    rfl
  · have e1 : mj_rs (mj_fl B 0 36) j = 0 := by
      unfold mj_rs
      rw [mj_sum_congr 6 (g := fun _ => 0) (fun y hy => by unfold mj_fl; rw [if_pos (by omega)])]
      rfl
    rw [e1, (hKF j hj).2]
    omega
end MB
