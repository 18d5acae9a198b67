/-! the writer of texts: going through the molecule -/
abbrev GS : Type := (Nat → Int) × Nat × (Nat → Int) × (Nat → Int)
noncomputable def gtI (n : Nat) (B : Nat → Int) : Nat → Nat → Int → GS → GS
  | 0, _, _, g => g
  | m + 1, a, bf, g => chR (fun b g => if 0 < B (a * 6 + b) then (if g.1 b = -2 then gtI n B m b a g else if (b : Int) ≠ bf then (g.1, mtR a b g.2.1 g.2.2.1 g.2.2.2) else g) else g) n 0 (va_up g.1 a bf, g.2)
def gOK (n : Nat) (g : GS) : Prop := (∀ j, j < n → g.1 j = -2 ∨ g.1 j = -1 ∨ ∃ x : Nat, g.1 j = x ∧ x < n) ∧ g.2.1 ≤ 9 ∧ ∀ j, 1 ≤ j → j ≤ g.2.1 → (∃ x : Nat, g.2.2.1 j = x ∧ x < n) ∧ ∃ x : Nat, g.2.2.2 j = x ∧ x < n
theorem mj_cnt_congr {f g : Nat → Int} {k : Int} : ∀ m, (∀ j, j < m → f j = g j) → mj_cnt f k m = mj_cnt g k m := by
  intro m
  induction m with
  | zero => intro _; rfl
  | succ m ih => intro h; rw [mj_cnt, mj_cnt, ih (fun j hj => h j (by omega)), h m (by omega)]
theorem mj_cnt_dec {f : Nat → Int} {k v : Int} {a : Nat} (hv : v ≠ k) (ha : f a = k) : ∀ m, a < m → mj_cnt (va_up f a v) k m + 1 = mj_cnt f k m := by
  intro m
  induction m with
  | zero => intro h; exact absurd h (Nat.not_lt_zero a)
  | succ m ih =>
    intro h
    rw [mj_cnt, mj_cnt]
    by_cases e : a = m
    · subst e
      rw [va_up_self, if_neg hv, ha, if_pos rfl, mj_cnt_congr a (f := va_up f a v) (g := f) (fun j hj => va_up_ne _ _ (by omega))]
    · rw [va_up_ne _ _ (by omega), ← ih (by omega)]
      omega
theorem gOK_mt {n : Nat} {g : GS} {a b : Nat} (h : gOK n g) (ha : a < n) (hb : b < n) : gOK n (g.1, mtR a b g.2.1 g.2.2.1 g.2.2.2) := by
  obtain ⟨h1, h2, h3⟩ := h
  unfold mtR
  split
  · exact ⟨h1, h2, h3⟩
  · split
    · rename_i q
      refine ⟨h1, by show g.2.1 + 1 ≤ 9; omega, fun j j1 j2 => ?_⟩
      have j2 : j ≤ g.2.1 + 1 := j2
      by_cases e : j = g.2.1 + 1
      · subst e
        refine ⟨⟨a, ?_, ha⟩, ⟨b, ?_, hb⟩⟩
        · show va_up g.2.2.1 (g.2.1 + 1) (a : Int) (g.2.1 + 1) = _; rw [va_up_self]
        · show va_up g.2.2.2 (g.2.1 + 1) (b : Int) (g.2.1 + 1) = _; rw [va_up_self]
      · have w := h3 j j1 (by omega)
        refine ⟨?_, ?_⟩
        · show ∃ x : Nat, va_up g.2.2.1 (g.2.1 + 1) (a : Int) j = x ∧ x < n; rw [va_up_ne _ _ e]; exact w.1
        · show ∃ x : Nat, va_up g.2.2.2 (g.2.1 + 1) (b : Int) j = x ∧ x < n; rw [va_up_ne _ _ e]; exact w.2
    · exact ⟨h1, h2, h3⟩
theorem gOK_up {n : Nat} {g : GS} {a : Nat} {bf : Int} (h : gOK n g) (hb : bf = -1 ∨ ∃ x : Nat, bf = x ∧ x < n) : gOK n (va_up g.1 a bf, g.2) := by
  obtain ⟨h1, h2, h3⟩ := h
  refine ⟨fun j hj => ?_, h2, h3⟩
  show va_up g.1 a bf j = -2 ∨ va_up g.1 a bf j = -1 ∨ ∃ x : Nat, va_up g.1 a bf j = x ∧ x < n
  by_cases e : j = a
  · subst e; rw [va_up_self]; exact Or.inr hb
  · rw [va_up_ne _ _ e]; exact h1 j hj
/-- one turn of the walk's loop keeps what it must -/
theorem gtI_ok {n : Nat} {B : Nat → Int} : ∀ (m a : Nat) (bf : Int) (g : GS), gOK n g → a < n → g.1 a = -2 → mj_cnt g.1 (-2) n ≤ m → (bf = -1 ∨ ∃ x : Nat, bf = x ∧ x < n) → gOK n (gtI n B m a bf g) ∧ mj_cnt (gtI n B m a bf g).1 (-2) n + 1 ≤ mj_cnt g.1 (-2) n := by
  intro m
  induction m with
  | zero =>
    intro a bf g hg ha h2 hc hb
    have := mj_cnt_dec (f := g.1) (k := -2) (v := 0) (a := a) (by decide) h2 n ha
    omega
  | succ m ih =>
    intro a bf g hg ha h2 hc hb
    have hd := mj_cnt_dec (f := g.1) (k := -2) (v := bf) (a := a) (by rcases hb with h | ⟨x, h, _⟩ <;> omega) h2 n ha
    have loop : ∀ (q b : Nat) (g1 : GS), b + q ≤ n → gOK n g1 → mj_cnt g1.1 (-2) n ≤ m → gOK n (chR (fun b g => if 0 < B (a * 6 + b) then (if g.1 b = -2 then gtI n B m b a g else if (b : Int) ≠ bf then (g.1, mtR a b g.2.1 g.2.2.1 g.2.2.2) else g) else g) q b g1) ∧ mj_cnt (chR (fun b g => if 0 < B (a * 6 + b) then (if g.1 b = -2 then gtI n B m b a g else if (b : Int) ≠ bf then (g.1, mtR a b g.2.1 g.2.2.1 g.2.2.2) else g) else g) q b g1).1 (-2) n ≤ mj_cnt g1.1 (-2) n := by
      intro q
      induction q with
      | zero => intro b g1 _ h1 _; exact ⟨h1, Nat.le_refl _⟩
      | succ q ih2 =>
        intro b g1 hb1 h1 hc1
        rw [chR]
        by_cases q1 : 0 < B (a * 6 + b)
        · rw [if_pos q1]
          by_cases q2 : g1.1 b = -2
          · rw [if_pos q2]
            have w := ih b a g1 h1 (by omega) q2 hc1 (Or.inr ⟨a, rfl, ha⟩)
            have w2 := ih2 (b + 1) _ (by omega) w.1 (by omega)
            exact ⟨w2.1, by omega⟩
          · rw [if_neg q2]
            by_cases q3 : (b : Int) ≠ bf
            · rw [if_pos q3]
              exact ih2 (b + 1) (g1.1, mtR a b g1.2.1 g1.2.2.1 g1.2.2.2) (by omega) (gOK_mt h1 ha (by omega)) hc1
            · rw [if_neg q3]
              exact ih2 (b + 1) g1 (by omega) h1 hc1
        · rw [if_neg q1]
          exact ih2 (b + 1) g1 (by omega) h1 hc1
    have w := loop n 0 (va_up g.1 a bf, g.2) (by omega) (gOK_up hg hb) (by show mj_cnt (va_up g.1 a bf) (-2) n ≤ m; omega)
    rw [gtI]
    refine ⟨w.1, ?_⟩
    have w2 : mj_cnt (chR _ n 0 (va_up g.1 a bf, g.2)).1 (-2) n ≤ mj_cnt (va_up g.1 a bf) (-2) n := w.2
    omega
/-- what lies beyond the atoms stays -/
theorem gtI_out {n : Nat} {B : Nat → Int} {j : Nat} (hj : n ≤ j) : ∀ (m a : Nat) (bf : Int) (g : GS), a < n → (gtI n B m a bf g).1 j = g.1 j := by
  intro m
  induction m with
  | zero => intro a bf g _; rw [gtI]
  | succ m ih =>
    intro a bf g ha
    have loop : ∀ (q b : Nat) (g1 : GS), b + q ≤ n → (chR (fun b g => if 0 < B (a * 6 + b) then (if g.1 b = -2 then gtI n B m b a g else if (b : Int) ≠ bf then (g.1, mtR a b g.2.1 g.2.2.1 g.2.2.2) else g) else g) q b g1).1 j = g1.1 j := by
      intro q
      induction q with
      | zero => intro b g1 _; rfl
      | succ q ih2 =>
        intro b g1 hb
        rw [chR]
        refine (ih2 (b + 1) _ (by omega)).trans ?_
        by_cases q1 : 0 < B (a * 6 + b)
        · simp only [if_pos q1]
          by_cases q2 : g1.1 b = -2
          · simp only [if_pos q2]; exact ih b a g1 (by omega)
          · simp only [if_neg q2]
            by_cases q3 : (b : Int) ≠ bf
            · rw [if_pos q3]
            · rw [if_neg q3]
        · simp only [if_neg q1]
    rw [gtI]
    refine (loop n 0 _ (by omega)).trans ?_
    exact va_up_ne _ _ (by omega)
section TW2
variable {Γ : mj_G} {n : Nat} {K F B : Nat → Int}
def mj_twg (S : mj_S) (g : GS) : Prop := mj_tw S g.2.1 g.1 g.2.2.1 g.2.2.2
theorem m_Tw_goThrough (hn : n ≤ 6) (hB : ∀ j, j < 36 → 0 ≤ B j ∧ B j ≤ 3) : ∀ (m a d : Nat) (bf ep : Int) (S : mj_S) (g : GS), S.2.1 = 65 → mj_twg S g → mj_ml S 33 n K F B → gOK n g → a < n → g.1 a = -2 → mj_cnt g.1 (-2) n ≤ m → (bf = -1 ∨ ∃ x : Nat, bf = x ∧ x < n) → 0 ≤ ep ∧ ep + m ≤ 6 → m + 1 ≤ d →
    mj_Met Γ d y_Tw_goThrough M_Tw_goThrough [.ref 13, .ref 33, .int (iZ a), .int (iZ bf), .int (iZ ep)] S 0 0 (mj_V fun S' => mj_fr S S' [13, 14, 15, 16] ∧ mj_twg S' (gtI n B m a bf g)) := by
  intro m
  induction m with
  | zero =>
    intro a d bf ep S g hw ht hm hg ha h2 hc hb hep hd
    have := mj_cnt_dec (f := g.1) (k := -2) (v := 0) (a := a) (by decide) h2 n ha
    omega
  | succ m ih =>
    intro a d bf ep S g hw ht hm hg ha h2 hc hb hep hd
    have hdec := mj_cnt_dec (f := g.1) (k := -2) (v := bf) (a := a) (by rcases hb with h | ⟨x, h, _⟩ <;> omega) h2 n ha
    have hbr : iR bf := by
      rcases hb with h | ⟨x, h, h9⟩
      · rw [h]; decide
      · rw [h]; omega
    have ht0 := ht
    obtain ⟨t1, t2, t3, t4⟩ := ht
    refine mj_Met.of (by decide) ⟨rfl, rfl⟩ rfl rfl rfl ?_
    refine mj_iload d_Tw_goThrough_0 rfl ?_
    refine mz_bipush d_Tw_goThrough_2 (by decide) ?_
    refine mz_icmp_lt 8 d_Tw_goThrough_4 (by decide) (by omega) (by omega) (fun c_4 => ?_) (fun c_4 => ?_)
    rotate_left
    · omega
    refine mj_aload_n d_Tw_goThrough_8 rfl ?_
    refine mj_get (ci := 5) (j := 0) d_Tw_goThrough_9 rfl w_Tw_9 (by decide) (by omega) (by assumption) rfl ?_
    refine mj_iload_n d_Tw_goThrough_12 rfl ?_
    refine mj_iload_n d_Tw_goThrough_13 rfl ?_
    refine mz_iast d_Tw_goThrough_14 (by omega) (by assumption) (rfl) (by omega) (fun S_14 w_14 e_14 f_14 => ?_)
    have htw14 : mj_twg S_14 (va_up g.1 a bf, g.2) := ⟨f_14.at t1 (by simp), e_14, f_14.at t3 (by simp), f_14.at t4 (by simp)⟩
    refine mz_iconst d_Tw_goThrough_15 ?_
    refine mz_ist5 d_Tw_goThrough_16 (rfl) ?_
    have loop : ∀ (q b : Nat) (S1 : mj_S) (g1 : GS), b + q = n → mj_fr S S1 [13, 14, 15, 16] → mj_twg S1 g1 → gOK n g1 → mj_cnt g1.1 (-2) n ≤ m → mj_Ok Γ d M_Tw_goThrough 0 0 18 [.ref 13, .ref 33, .int (iZ a), .int (iZ bf), .int (iZ ep), .int (iZ b)] [] S1
        (mj_V fun S' => mj_fr S S' [13, 14, 15, 16] ∧ mj_twg S' (chR (fun b g => if 0 < B (a * 6 + b) then (if g.1 b = -2 then gtI n B m b a g else if (b : Int) ≠ bf then (g.1, mtR a b g.2.1 g.2.2.1 g.2.2.2) else g) else g) q b g1)) := by
      intro q
      induction q with
      | zero =>
        intro b S1 g1 hb1 f1 ht1 hg1 hc1
        have hw1 : S1.2.1 = 65 := f1.w.trans hw
        have m1 := (hm.fr f1 (by simp)).1
        obtain ⟨t1, t2, t3, t4⟩ := id ht1
        refine mj_iload d_Tw_goThrough_18 rfl ?_
        refine mj_aload_n d_Tw_goThrough_20 rfl ?_
        refine mj_get (ci := 4) (j := 3) d_Tw_goThrough_21 rfl w_Tw_44 (by decide) (by omega) (by assumption) rfl ?_
        refine mz_icmp_ge 83 d_Tw_goThrough_24 (by decide) (by omega) (by omega) (fun c_24 => ?_) (fun c_24 => ?_)
        · refine mz_vret d_Tw_goThrough_83 rfl ?_
          exact ⟨f1, ht1⟩
        · omega
      | succ q ih2 =>
        intro b S1 g1 hb1 f1 ht1 hg1 hc1
        have hw1 : S1.2.1 = 65 := f1.w.trans hw
        have hm1 : mj_ml S1 33 n K F B := hm.fr f1 (by simp)
        have m1 := hm1.1
        obtain ⟨t1, t2, t3, t4⟩ := id ht1
        have hbb := hB (a * 6 + b) (by omega)
        have hcr : iR (g1.1 b) := by
          rcases hg1.1 b (by omega) with w | w | ⟨x, w, w2⟩
          · rw [w]; decide
          · rw [w]; decide
          · rw [w]; omega
        refine mj_iload d_Tw_goThrough_18 rfl ?_
        refine mj_aload_n d_Tw_goThrough_20 rfl ?_
        refine mj_get (ci := 4) (j := 3) d_Tw_goThrough_21 rfl w_Tw_44 (by decide) (by omega) (by assumption) rfl ?_
        refine mz_icmp_ge 83 d_Tw_goThrough_24 (by decide) (by omega) (by omega) (fun c_24 => ?_) (fun c_24 => ?_)
        · omega
        · refine mj_aload_n d_Tw_goThrough_27 rfl ?_
          refine mj_iload_n d_Tw_goThrough_28 rfl ?_
          refine mj_iload d_Tw_goThrough_29 rfl ?_
          refine mz_callV2i (ci := 4) d_Tw_goThrough_31 (m_Ml_between (d := 0) hw1 hm1 (by omega) (by omega)) cw_Ml_between lk_Tw_49 rfl rfl (by omega) (by assumption) (by omega) rfl (fun z_31 S_31 h_31 => ?_)
          obtain ⟨rfl, rfl⟩ := h_31
          refine mz_if_le 77 d_Tw_goThrough_34 (by decide) (by omega) (fun c_34 => ?_) (fun c_34 => ?_)
          · refine mz_inc5 d_Tw_goThrough_77 (rfl) ?_
            refine mj_goto 18 d_Tw_goThrough_80 (by decide) ?_
            have w := ih2 (b + 1) S_31 g1 (by omega) f1 ht1 hg1 hc1
            rw [chR, if_neg (by omega)]
            exact w
          · refine mj_aload_n d_Tw_goThrough_37 rfl ?_
            refine mj_get (ci := 5) (j := 0) d_Tw_goThrough_38 rfl w_Tw_9 (by decide) (by omega) (by assumption) rfl ?_
            refine mj_iload d_Tw_goThrough_41 rfl ?_
            refine mz_iald d_Tw_goThrough_43 (by omega) (by assumption) (rfl) (by omega) ?_
            refine mz_bipush d_Tw_goThrough_44 (by decide) ?_
            refine mz_icmp_ne 64 d_Tw_goThrough_46 (by decide) (hcr) (by decide) (fun c_46 => ?_) (fun c_46 => ?_)
            · refine mj_iload d_Tw_goThrough_64 rfl ?_
              refine mj_iload_n d_Tw_goThrough_66 rfl ?_
              refine mz_icmp_eq 77 d_Tw_goThrough_67 (by decide) (by omega) (hbr) (fun c_67 => ?_) (fun c_67 => ?_)
              · refine mz_inc5 d_Tw_goThrough_77 (rfl) ?_
                refine mj_goto 18 d_Tw_goThrough_80 (by decide) ?_
                have w := ih2 (b + 1) S_31 g1 (by omega) f1 ht1 hg1 hc1
                rw [chR, if_pos c_34, if_neg c_46, if_neg (fun z => z c_67)]
                exact w
              · refine mj_aload_n d_Tw_goThrough_70 rfl ?_
                refine mj_iload_n d_Tw_goThrough_71 rfl ?_
                refine mj_iload d_Tw_goThrough_72 rfl ?_
                refine mz_callV2v (ci := 5) d_Tw_goThrough_74 (m_Tw_meetRing (d := 0) hw1 ht1 hg1.2.1 (by omega) (by omega) (fun j j1 j2 => by obtain ⟨⟨x, hx, hx2⟩, ⟨y, hy, hy2⟩⟩ := hg1.2.2 j j1 j2; rw [hx, hy]; omega)) cw_Tw_meetRing lk_Tw_53 rfl rfl (by omega) (by assumption) (by omega) rfl (fun S_74 h_74 => ?_)
                obtain ⟨g3, g4⟩ := h_74
                refine mz_inc5 d_Tw_goThrough_77 (rfl) ?_
                refine mj_goto 18 d_Tw_goThrough_80 (by decide) ?_
                have w := ih2 (b + 1) S_74 (g1.1, mtR a b g1.2.1 g1.2.2.1 g1.2.2.2) (by omega) (f1.tr g3 (by simp) (by simp)) g4 (gOK_mt hg1 ha (by omega)) hc1
                rw [chR, if_pos c_34, if_neg c_46, if_pos c_67]
                exact w
            · refine mj_aload_n d_Tw_goThrough_49 rfl ?_
              refine mj_aload_n d_Tw_goThrough_50 rfl ?_
              refine mj_iload d_Tw_goThrough_51 rfl ?_
              refine mj_iload_n d_Tw_goThrough_53 rfl ?_
              refine mj_iload d_Tw_goThrough_54 rfl ?_
              refine mz_iconst d_Tw_goThrough_56 ?_
              refine mz_iadd d_Tw_goThrough_57 ?_
              refine mz_callV4v (ci := 5) d_Tw_goThrough_58 (ih b (d - 1) a (ep + 1) S_31 g1 hw1 ht1 hm1 hg1 (by omega) c_46 hc1 (Or.inr ⟨a, rfl, ha⟩) (by omega) (by omega)) cw_Tw_goThrough lk_Tw_31 rfl rfl (by omega) (by assumption) (by omega) rfl (fun S_58 h_58 => ?_)
              obtain ⟨g3, g4⟩ := h_58
              have ok := gtI_ok (B := B) m b a g1 hg1 (by omega) c_46 hc1 (Or.inr ⟨a, rfl, ha⟩)
              refine mj_goto 77 d_Tw_goThrough_61 (by decide) ?_
              refine mz_inc5 d_Tw_goThrough_77 (rfl) ?_
              refine mj_goto 18 d_Tw_goThrough_80 (by decide) ?_
              have w := ih2 (b + 1) S_58 _ (by omega) (f1.tr g3 (by simp) (by simp)) g4 ok.1 (by omega)
              rw [chR, if_pos c_34, if_pos c_46]
              exact w
    have w := loop n 0 S_14 (va_up g.1 a bf, g.2) (by omega) (f_14.tr (mj_fr.rf _ []) (by simp) (by simp)) htw14 (gOK_up hg hb) (by show mj_cnt (va_up g.1 a bf) (-2) n ≤ m; omega)
    exact w
end TW2
