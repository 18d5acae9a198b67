/-! the search of numberings (17: chosen 18, taken 19) -/
def mj_nu (S : mj_S) (A g s : Nat) : Prop := S.1 17 = .inr (6, [.ref 18, .ref 19, .int (iZ A), .int (iZ g), .int (iZ s)])
/-- the molecule and the wanted elements that the search looks at: kinds, bonds, wanted -/
def mj_nx (S : mj_S) (mo wa A : Nat) (KM B KW : Nat → Nat) : Prop := ∃ (n : Nat) (K F Bz W : Nat → Int), mj_ml S mo n K F Bz ∧ S.1 wa = .inl (0, 6, .inl (mj_z W)) ∧ wa < 65 ∧ wa ≠ 17 ∧ wa ≠ 18 ∧ wa ≠ 19 ∧ (mo + 3 < 17 ∨ 19 < mo) ∧ (∀ j, j < A → K j = KM j ∧ KM j < 1000) ∧ (∀ j, j < 36 → Bz j = B j ∧ B j < 4) ∧ (∀ j, j < A → W j = KW j ∧ KW j < 1000)
theorem mj_nx.fr {S S' : mj_S} {mo wa A : Nat} {KM B KW : Nat → Nat} (h : mj_nx S mo wa A KM B KW) (hf : mj_fr S S' [17, 18, 19]) : mj_nx S' mo wa A KM B KW := by
  obtain ⟨n, K, F, Bz, W, h1, h2, h3, h4, h5, h6, h7, h8⟩ := h
  exact ⟨n, K, F, Bz, W, h1.fr hf (by simp; omega), hf.at h2 (by simp; omega), h3, h4, h5, h6, h7, h8⟩
def mj_rw (B ch : Nat → Nat) (a : Nat) : Nat → Nat
  | 0 => 0
  | k + 1 => mj_rw B ch a k * 4 + B (a * 6 + ch k)
theorem mj_rw_lt {B ch : Nat → Nat} {a : Nat} (ha : a < 6) (hB : ∀ j, j < 36 → B j < 4) : ∀ k, (∀ j, j < k → ch j < 6) → mj_rw B ch a k < 4 ^ k := by
  intro k
  induction k with
  | zero => intro _; exact Nat.one_pos
  | succ k ih =>
    intro hc
    have h1 := ih (fun j hj => hc j (by omega))
    have h2 := hB (a * 6 + ch k) (by have := hc k (by omega); omega)
    rw [mj_rw, Nat.pow_succ]
    omega
theorem mj_rw_congr {B ch ch' : Nat → Nat} {a : Nat} : ∀ k, (∀ j, j < k → ch j = ch' j) → mj_rw B ch a k = mj_rw B ch' a k := by
  intro k
  induction k with
  | zero => intro _; rfl
  | succ k ih => intro h; rw [mj_rw, mj_rw, ih (fun j hj => h j (by omega)), h k (by omega)]
/-- how far left the last number of row k stands -/
def mj_sh (k : Nat) : Nat := 30 - k * (k + 1)
theorem mj_sh_i : ∀ k : Nat, k ≤ 5 → (30 : Int) - (k : Int) * ((k : Int) + 1) = (mj_sh k : Nat) := by decide
theorem mj_sh_r : ∀ k, k ≤ 5 → mj_sh k ≤ 30 ∧ 4 ^ k * 2 ^ mj_sh k ≤ 2 ^ 30 := by decide
def mj_nt (c : Nat) (p : Nat × Nat) : Nat × Nat := if p.1 < c then (c, 1) else (p.1, p.2 + 1)
def chR {α : Type} (f : Nat → α → α) : Nat → Nat → α → α
  | 0, _, p => p
  | r + 1, a, p => chR f r (a + 1) (f a p)
def chI (A : Nat) (KM B KW : Nat → Nat) : Nat → Nat → Nat → (Nat → Nat) → (Nat → Bool) → Nat × Nat → Nat × Nat
  | 0, _, c, _, _, p => mj_nt c p
  | m + 1, k, c, ch, tk, p => chR (fun a p => if tk a = false ∧ KM a = KW k then (if p.1 / 2 ^ mj_sh k ≤ (c ||| mj_rw B ch a k * 2 ^ mj_sh k) / 2 ^ mj_sh k then chI A KM B KW m (k + 1) (c ||| mj_rw B ch a k * 2 ^ mj_sh k) (va_up ch k a) (va_up tk a true) p else p) else p) A 0 p
section NU
variable {Γ : mj_G} {d mo wa A g s : Nat} {S : mj_S} {KM B KW ch : Nat → Nat} {CA TA : Nat → Int}
theorem m_Nu_row (hw : S.2.1 = 65) (hn : mj_nu S A g s) (hm : mj_nx S mo wa A KM B KW) (h18 : S.1 18 = .inl (0, 6, .inl (mj_z CA))) {a k : Nat} (ha : a < 6) (hk : k ≤ 5) (hc : ∀ j, j < k → CA j = ch j ∧ ch j < 6) :
    mj_Met Γ d y_Nu_row M_Nu_row [.ref 17, .ref mo, .int (iZ k), .int (iZ a)] S 0 0 (mj_I fun z S' => S' = S ∧ z = (mj_rw B ch a k : Nat)) := by
  obtain ⟨n, K, F, Bz, W, ⟨m1, m2, m3, m4, m5⟩, w1, w2, w3, w4, w5, w6, q1, q2, q3⟩ := hm
  have hn : S.1 17 = .inr (6, [.ref 18, .ref 19, .int (iZ A), .int (iZ g), .int (iZ s)]) := hn
  refine mj_Met.of (by decide) ⟨rfl, rfl⟩ rfl rfl rfl ?_
  refine mz_iconst d_Nu_row_0 ?_
  refine mz_ist4 d_Nu_row_1 (rfl) ?_
  refine mz_iconst d_Nu_row_3 ?_
  refine mz_ist5 d_Nu_row_4 (rfl) ?_
  have loop : ∀ (q i : Nat), i + q = k → mj_Ok Γ d M_Nu_row 0 0 6 [.ref 17, .ref mo, .int (iZ k), .int (iZ a), .int (iZ (mj_rw B ch a i : Nat)), .int (iZ i)] [] S (mj_I fun z S' => S' = S ∧ z = (mj_rw B ch a k : Nat)) := by
    intro q
    induction q with
    | zero =>
      intro i hi
      refine mj_iload d_Nu_row_6 rfl ?_
      refine mj_iload_n d_Nu_row_8 rfl ?_
      refine mz_icmp_ge 42 d_Nu_row_9 (by decide) (by omega) (by omega) (fun c_9 => ?_) (fun c_9 => ?_)
      · refine mj_iload d_Nu_row_42 rfl ?_
        refine mz_iret d_Nu_row_44 rfl (rfl) ?_
        exact ⟨rfl, by rw [show i = k by omega]⟩
      · omega
    | succ q ih =>
      intro i hi
      have r1 := mj_rw_lt (ch := ch) ha (fun j hj => (q2 j hj).2) i (fun j hj => (hc j (by omega)).2)
      have r2 : 4 ^ i ≤ 4 ^ 5 := Nat.pow_le_pow_right (by decide) (by omega)
      have hci := hc i (by omega)
      have hb := q2 (a * 6 + ch i) (by omega)
      refine mj_iload d_Nu_row_6 rfl ?_
      refine mj_iload_n d_Nu_row_8 rfl ?_
      refine mz_icmp_ge 42 d_Nu_row_9 (by decide) (by omega) (by omega) (fun c_9 => ?_) (fun c_9 => ?_)
      · omega
      · refine mj_iload d_Nu_row_12 rfl ?_
        refine mz_iconst d_Nu_row_14 ?_
        refine mz_ishl (s := 2) d_Nu_row_15 (rfl) (rfl) (by omega) (by omega) ?_
        refine mj_aload_n d_Nu_row_16 rfl ?_
        refine mj_get (ci := 4) (j := 2) d_Nu_row_17 rfl w_Nu_59 (by decide) (by omega) (by assumption) rfl ?_
        refine mj_iload_n d_Nu_row_20 rfl ?_
        refine mz_bipush d_Nu_row_21 (by decide) ?_
        refine mz_imul d_Nu_row_23 ?_
        refine mj_aload_n d_Nu_row_24 rfl ?_
        refine mj_get (ci := 6) (j := 0) d_Nu_row_25 rfl w_Nu_9 (by decide) (by omega) (by assumption) rfl ?_
        refine mj_iload d_Nu_row_28 rfl ?_
        refine mz_iald d_Nu_row_30 (by omega) (by assumption) (rfl) (by omega) ?_
        rw [hci.1]
        refine mz_iadd d_Nu_row_31 ?_
        refine mz_iald (j := a * 6 + ch i) d_Nu_row_32 (by omega) (by assumption) (by omega) (by omega) ?_
        rw [hb.1]
        refine mz_ior d_Nu_row_33 (rfl) (rfl) ?_
        rw [show (mj_rw B ch a i * 2 ^ 2 ||| B (a * 6 + ch i)) = mj_rw B ch a (i + 1) from mj_lor4 _ _ hb.2]
        refine mz_ist4 d_Nu_row_34 (rfl) ?_
        refine mz_inc5 d_Nu_row_36 (rfl) ?_
        refine mj_goto 6 d_Nu_row_39 (by decide) ?_
        exact ih (i + 1) (by omega)
  exact loop k 0 (by omega)
theorem m_Nu_noteCode (hw : S.2.1 = 65) (hn : mj_nu S A g s) (hg : g < 2147483648) {c : Nat} (hc : c < 2147483648) : mj_Met Γ d y_Nu_noteCode M_Nu_noteCode [.ref 17, .int (iZ c)] S 0 0 (mj_V fun S' => mj_fr S S' [17] ∧ mj_nu S' A (mj_nt c (g, s)).1 (mj_nt c (g, s)).2) := by
  have hn : S.1 17 = .inr (6, [.ref 18, .ref 19, .int (iZ A), .int (iZ g), .int (iZ s)]) := hn
  refine mj_Met.of (by decide) ⟨rfl, rfl⟩ rfl rfl rfl ?_
  refine mj_iload_n d_Nu_noteCode_0 rfl ?_
  refine mj_aload_n d_Nu_noteCode_1 rfl ?_
  refine mj_get (ci := 6) (j := 3) d_Nu_noteCode_2 rfl w_Nu_26 (by decide) (by omega) (by assumption) rfl ?_
  refine mz_icmp_le 18 d_Nu_noteCode_5 (by decide) (by omega) (by omega) (fun c_5 => ?_) (fun c_5 => ?_)
  · refine mj_aload_n d_Nu_noteCode_18 rfl ?_
    refine mj_dup d_Nu_noteCode_19 rfl ?_
    refine mj_get (ci := 6) (j := 4) d_Nu_noteCode_20 rfl w_Nu_29 (by decide) (by omega) (by assumption) rfl ?_
    refine mz_iconst d_Nu_noteCode_23 ?_
    refine mz_iadd d_Nu_noteCode_24 ?_
    refine mz_put (ci := 6) (j := 4) d_Nu_noteCode_25 rfl w_Nu_29 (by decide) rfl (by omega) (by assumption) (Nat.le_of_ble_eq_true rfl) (mj_fit_int _) rfl (fun S_25 w_25 e_25 f_25 => ?_)
    refine mz_vret d_Nu_noteCode_28 rfl ?_
    refine ⟨f_25, ?_⟩
    rw [show mj_nt c (g, s) = (g, s + 1) from if_neg (by show ¬ g < c; omega)]
    exact e_25
  · refine mj_aload_n d_Nu_noteCode_8 rfl ?_
    refine mj_iload_n d_Nu_noteCode_9 rfl ?_
    refine mz_put (ci := 6) (j := 3) d_Nu_noteCode_10 rfl w_Nu_26 (by decide) rfl (by omega) (by assumption) (Nat.le_of_ble_eq_true rfl) (mj_fit_int _) rfl (fun S_10 w_10 e_10 f_10 => ?_)
    refine mj_aload_n d_Nu_noteCode_13 rfl ?_
    refine mz_iconst d_Nu_noteCode_14 ?_
    refine mz_put (ci := 6) (j := 4) d_Nu_noteCode_15 rfl w_Nu_29 (by decide) rfl (by omega) (by assumption) (Nat.le_of_ble_eq_true rfl) (mj_fit_int _) rfl (fun S_15 w_15 e_15 f_15 => ?_)
    refine mj_aload_n d_Nu_noteCode_18 rfl ?_
    refine mj_dup d_Nu_noteCode_19 rfl ?_
    refine mj_get (ci := 6) (j := 4) d_Nu_noteCode_20 rfl w_Nu_29 (by decide) (by omega) (by assumption) rfl ?_
    refine mz_iconst d_Nu_noteCode_23 ?_
    refine mz_iadd d_Nu_noteCode_24 ?_
    refine mz_put (ci := 6) (j := 4) d_Nu_noteCode_25 rfl w_Nu_29 (by decide) rfl (by omega) (by assumption) (Nat.le_of_ble_eq_true rfl) (mj_fit_int _) rfl (fun S_25 w_25 e_25 f_25 => ?_)
    refine mz_vret d_Nu_noteCode_28 rfl ?_
    refine ⟨(f_10.tr f_15 (l := [17]) (by simp) (by simp)).tr f_25 (by simp) (by simp), ?_⟩
    rw [show mj_nt c (g, s) = (c, 1) from if_pos (by show g < c; omega)]
    exact e_25
theorem mj_up_undo {T : Nat → Int} {a : Nat} {v : Int} (h : T a = 0) : va_up (va_up T a v) a 0 = T := by
  funext j
  by_cases e : j = a
  · subst e; rw [va_up_self, h]
  · rw [va_up_ne _ _ e, va_up_ne _ _ e]
theorem mj_or_lt {c x : Nat} (h1 : c < 2 ^ 30) (h2 : x < 2 ^ 30) : c ||| x < 2 ^ 30 := Nat.or_lt_two_pow h1 h2
theorem m_Nu_choose : ∀ (m k c g s d : Nat) (S : mj_S) (ch : Nat → Nat) (tk : Nat → Bool) (CA TA : Nat → Int), S.2.1 = 65 → mj_nu S A g s → mj_nx S mo wa A KM B KW → S.1 18 = .inl (0, 6, .inl (mj_z CA)) → S.1 19 = .inl (2, 6, .inl (mj_z TA)) → (∀ j, j < 6 → TA j = if tk j then 1 else 0) → A ≤ 6 → k + m = A → (∀ j, j < k → CA j = ch j ∧ ch j < 6) → c < 2 ^ 30 → g < 2 ^ 30 → m + 1 ≤ d →
    mj_Met Γ d y_Nu_choose M_Nu_choose [.ref 17, .ref mo, .ref wa, .int (iZ k), .int (iZ c)] S 0 0 (mj_V fun S' => mj_fr S S' [17, 18, 19] ∧ mj_nu S' A (chI A KM B KW m k c ch tk (g, s)).1 (chI A KM B KW m k c ch tk (g, s)).2 ∧ (chI A KM B KW m k c ch tk (g, s)).1 < 2 ^ 30 ∧ S'.1 19 = .inl (2, 6, .inl (mj_z TA)) ∧ ∃ CA', S'.1 18 = .inl (0, 6, .inl (mj_z CA')) ∧ ∀ j, j < k → CA' j = CA j) := by
  intro m
  induction m with
  | zero =>
    intro k c g s d S ch tk CA TA hw hn hm h18 h19 hT hA hk hc hcl hgl hd
    have hn0 : S.1 17 = .inr (6, [.ref 18, .ref 19, .int (iZ A), .int (iZ g), .int (iZ s)]) := hn
    refine mj_Met.of (by decide) ⟨rfl, rfl⟩ rfl rfl rfl ?_
    refine mj_iload_n d_Nu_choose_0 rfl ?_
    refine mj_aload_n d_Nu_choose_1 rfl ?_
    refine mj_get (ci := 6) (j := 2) d_Nu_choose_2 rfl w_Nu_25 (by decide) (by omega) (by assumption) rfl ?_
    refine mz_icmp_lt 15 d_Nu_choose_5 (by decide) (by omega) (by omega) (fun c_5 => ?_) (fun c_5 => ?_)
    · omega
    · refine mj_aload_n d_Nu_choose_8 rfl ?_
      refine mj_iload d_Nu_choose_9 rfl ?_
      refine mz_callV1v (ci := 6) d_Nu_choose_11 (m_Nu_noteCode (d := 0) hw hn (by omega) (by omega)) cw_Nu_noteCode lk_Nu_40 rfl rfl (by omega) (by assumption) (by omega) rfl (fun S_11 h_11 => ?_)
      obtain ⟨f1, h1⟩ := h_11
      refine mz_vret d_Nu_choose_14 rfl ?_
      refine ⟨f1.tr (mj_fr.rf _ []) (by simp) (by simp), h1, ?_, f1.at h19 (by simp), CA, f1.at h18 (by simp), fun _ _ => rfl⟩
      show (mj_nt c (g, s)).1 < 2 ^ 30
      unfold mj_nt
      split <;> assumption
  | succ m ih =>
    intro k c g s d S ch tk CA TA hw hn hm h18 h19 hT hA hk hc hcl hgl hd
    have hn0 : S.1 17 = .inr (6, [.ref 18, .ref 19, .int (iZ A), .int (iZ g), .int (iZ s)]) := hn
    have hsh := mj_sh_r k (by omega)
    refine mj_Met.of (by decide) ⟨rfl, rfl⟩ rfl rfl rfl ?_
    refine mj_iload_n d_Nu_choose_0 rfl ?_
    refine mj_aload_n d_Nu_choose_1 rfl ?_
    refine mj_get (ci := 6) (j := 2) d_Nu_choose_2 rfl w_Nu_25 (by decide) (by omega) (by assumption) rfl ?_
    refine mz_icmp_lt 15 d_Nu_choose_5 (by decide) (by omega) (by omega) (fun c_5 => ?_) (fun c_5 => ?_)
    · refine mj_iload_n d_Nu_choose_15 rfl ?_
      refine mz_callSN1i d_Nu_choose_16 (m_IL_rowShift (d := 0) (by omega)) cw_IL_rowShift lk_Nu_44 (by omega) rfl (fun z_16 S_16 h_16 => ?_)
      obtain ⟨rfl, rfl⟩ := h_16
      rw [mj_sh_i k (by omega)]
      refine mz_ist5 d_Nu_choose_19 (rfl) ?_
      refine mz_iconst d_Nu_choose_21 ?_
      refine mz_ist6 d_Nu_choose_22 (rfl) ?_
      have loop : ∀ (r a : Nat) (S1 : mj_S) (p : Nat × Nat) (CA1 : Nat → Int), a + r = A → mj_fr S_16 S1 [17, 18, 19] → mj_nu S1 A p.1 p.2 → p.1 < 2 ^ 30 → S1.1 19 = .inl (2, 6, .inl (mj_z TA)) → S1.1 18 = .inl (0, 6, .inl (mj_z CA1)) → (∀ j, j < k → CA1 j = CA j) → ∀ x5 : Value, x5.category = 1 →
          mj_Ok Γ d M_Nu_choose 0 0 24 [.ref 17, .ref mo, .ref wa, .int (iZ k), .int (iZ c), .int (iZ (mj_sh k : Nat)), .int (iZ a), x5] [] S1 (mj_V fun S' => mj_fr S_16 S' [17, 18, 19] ∧ mj_nu S' A (chR (fun a p => if tk a = false ∧ KM a = KW k then (if p.1 / 2 ^ mj_sh k ≤ (c ||| mj_rw B ch a k * 2 ^ mj_sh k) / 2 ^ mj_sh k then chI A KM B KW m (k + 1) (c ||| mj_rw B ch a k * 2 ^ mj_sh k) (va_up ch k a) (va_up tk a true) p else p) else p) r a p).1 (chR (fun a p => if tk a = false ∧ KM a = KW k then (if p.1 / 2 ^ mj_sh k ≤ (c ||| mj_rw B ch a k * 2 ^ mj_sh k) / 2 ^ mj_sh k then chI A KM B KW m (k + 1) (c ||| mj_rw B ch a k * 2 ^ mj_sh k) (va_up ch k a) (va_up tk a true) p else p) else p) r a p).2
            ∧ (chR (fun a p => if tk a = false ∧ KM a = KW k then (if p.1 / 2 ^ mj_sh k ≤ (c ||| mj_rw B ch a k * 2 ^ mj_sh k) / 2 ^ mj_sh k then chI A KM B KW m (k + 1) (c ||| mj_rw B ch a k * 2 ^ mj_sh k) (va_up ch k a) (va_up tk a true) p else p) else p) r a p).1 < 2 ^ 30 ∧ S'.1 19 = .inl (2, 6, .inl (mj_z TA)) ∧ ∃ CA', S'.1 18 = .inl (0, 6, .inl (mj_z CA')) ∧ ∀ j, j < k → CA' j = CA j) := by
        intro r
        induction r with
        | zero =>
          intro a S1 p CA1 ha f1 hn1 hp h191 h181 hc1 x5 hx5
          have hn2 : S1.1 17 = .inr (6, [.ref 18, .ref 19, .int (iZ A), .int (iZ p.1), .int (iZ p.2)]) := hn1
          have hw1 := f1.w
          refine mj_iload d_Nu_choose_24 rfl ?_
          refine mj_aload_n d_Nu_choose_26 rfl ?_
          refine mj_get (ci := 6) (j := 2) d_Nu_choose_27 rfl w_Nu_25 (by decide) (by omega) (by assumption) rfl ?_
          refine mz_icmp_ge 128 d_Nu_choose_30 (by decide) (by omega) (by omega) (fun c_30 => ?_) (fun c_30 => ?_)
          · refine mz_vret d_Nu_choose_128 rfl ?_
            exact ⟨f1, hn1, hp, h191, CA1, h181, hc1⟩
          · omega
        | succ r ih2 =>
          intro a S1 p CA1 ha f1 hn1 hp h191 h181 hc1 x5 hx5
          have hn2 : S1.1 17 = .inr (6, [.ref 18, .ref 19, .int (iZ A), .int (iZ p.1), .int (iZ p.2)]) := hn1
          have hw1 := f1.w
          have hm1 : mj_nx S1 mo wa A KM B KW := hm.fr f1
          have hm1' := hm1
          obtain ⟨nn, K, F, Bz, W, ⟨m1, m2, m3, m4, m5⟩, w1, w2, w3, w4, w5, w6, q1, q2, q3⟩ := hm1
          have hTa := hT a (by omega)
          have hKa := q1 a (by omega)
          have hWk := q3 k (by omega)
          refine mj_iload d_Nu_choose_24 rfl ?_
          refine mj_aload_n d_Nu_choose_26 rfl ?_
          refine mj_get (ci := 6) (j := 2) d_Nu_choose_27 rfl w_Nu_25 (by decide) (by omega) (by assumption) rfl ?_
          refine mz_icmp_ge 128 d_Nu_choose_30 (by decide) (by omega) (by omega) (fun c_30 => ?_) (fun c_30 => ?_)
          · omega
          · refine mj_aload_n d_Nu_choose_33 rfl ?_
            refine mj_get (ci := 6) (j := 1) d_Nu_choose_34 rfl w_Nu_15 (by decide) (by omega) (by assumption) rfl ?_
            refine mj_iload d_Nu_choose_37 rfl ?_
            refine mz_zald d_Nu_choose_39 (by omega) (by assumption) (rfl) (by omega) ?_
            rw [hTa]
            cases ht : tk a with
            | true =>
              refine mz_if_ne 122 d_Nu_choose_40 (by decide) (by omega) (fun c_40 => ?_) (fun c_40 => ?_)
              · refine mz_inc6 d_Nu_choose_122 (by unfold mj_c1; simp only [List.all_cons, hx5]; rfl) ?_
                refine mj_goto 24 d_Nu_choose_125 (by decide) ?_
                have w := ih2 (a + 1) S1 p CA1 (by omega) f1 hn1 hp h191 h181 hc1 x5 hx5
                rw [chR, if_neg (by rw [ht]; simp)]
                exact w
              · simp at c_40
            | false =>
              refine mz_if_ne 122 d_Nu_choose_40 (by decide) (by omega) (fun c_40 => ?_) (fun c_40 => ?_)
              · simp at c_40
              · refine mj_aload_n d_Nu_choose_43 rfl ?_
                refine mj_get (ci := 4) (j := 0) d_Nu_choose_44 rfl w_Nu_48 (by decide) (by omega) (by assumption) rfl ?_
                refine mj_iload d_Nu_choose_47 rfl ?_
                refine mz_iald d_Nu_choose_49 (by omega) (by assumption) (rfl) (by omega) ?_
                rw [hKa.1]
                refine mj_aload_n d_Nu_choose_50 rfl ?_
                refine mj_iload_n d_Nu_choose_51 rfl ?_
                refine mz_iald d_Nu_choose_52 (by omega) (by assumption) (rfl) (by omega) ?_
                rw [hWk.1]
                refine mz_icmp_ne 122 d_Nu_choose_53 (by decide) (by omega) (by omega) (fun c_53 => ?_) (fun c_53 => ?_)
                · refine mz_inc6 d_Nu_choose_122 (by unfold mj_c1; simp only [List.all_cons, hx5]; rfl) ?_
                  refine mj_goto 24 d_Nu_choose_125 (by decide) ?_
                  have w := ih2 (a + 1) S1 p CA1 (by omega) f1 hn1 hp h191 h181 hc1 x5 hx5
                  rw [chR, if_neg (fun z => c_53 (by rw [z.2]))]
                  exact w
                · have hkk : KM a = KW k := by omega
                  have hrl := mj_rw_lt (ch := ch) (a := a) (by omega) (fun j hj => (q2 j hj).2) k (fun j hj => (hc j hj).2)
                  have hrs : mj_rw B ch a k * 2 ^ mj_sh k < 2 ^ 30 := Nat.lt_of_lt_of_le (Nat.mul_lt_mul_of_pos_right hrl (Nat.two_pow_pos _)) hsh.2
                  refine mj_iload d_Nu_choose_56 rfl ?_
                  refine mj_aload_n d_Nu_choose_58 rfl ?_
                  refine mj_aload_n d_Nu_choose_59 rfl ?_
                  refine mj_iload_n d_Nu_choose_60 rfl ?_
                  refine mj_iload d_Nu_choose_61 rfl ?_
                  refine mz_callV3i (ci := 6) d_Nu_choose_63 (m_Nu_row (d := 0) (ch := ch) (by omega) hn1 hm1' h181 (by omega) (by omega) (fun j hj => ⟨(hc1 j hj).trans (hc j hj).1, (hc j hj).2⟩)) cw_Nu_row lk_Nu_51 rfl rfl (by omega) (by assumption) (by omega) rfl (fun z_63 S_63 h_63 => ?_)
                  obtain ⟨rfl, rfl⟩ := h_63
                  have hor : c ||| mj_rw B ch a k * 2 ^ mj_sh k < 2 ^ 30 := mj_or_lt hcl hrs
                  obtain ⟨nx, hnx⟩ : ∃ nx : Nat, nx = c ||| mj_rw B ch a k * 2 ^ mj_sh k := ⟨_, rfl⟩
                  refine mj_iload d_Nu_choose_66 rfl ?_
                  refine mz_ishl d_Nu_choose_68 (rfl) (rfl) (by omega) (by omega) ?_
                  refine mz_ior d_Nu_choose_69 (rfl) (rfl) ?_
                  rw [← hnx] at hor ⊢
                  refine mz_ist7 d_Nu_choose_70 (by unfold mj_c1; simp only [List.all_cons, hx5]; rfl) ?_
                  obtain ⟨u1, hu1⟩ : ∃ u1 : Nat, u1 = nx / 2 ^ mj_sh k := ⟨_, rfl⟩
                  obtain ⟨u2, hu2⟩ : ∃ u2 : Nat, u2 = p.1 / 2 ^ mj_sh k := ⟨_, rfl⟩
                  have d1 : u1 ≤ nx := by rw [hu1]; exact Nat.div_le_self _ _
                  have d2 : u2 ≤ p.1 := by rw [hu2]; exact Nat.div_le_self _ _
                  refine mj_iload d_Nu_choose_72 rfl ?_
                  refine mj_iload d_Nu_choose_74 rfl ?_
                  refine mz_ishr d_Nu_choose_76 (rfl) (rfl) (by omega) (by omega) ?_
                  refine mj_aload_n d_Nu_choose_77 rfl ?_
                  refine mj_get (ci := 6) (j := 3) d_Nu_choose_78 rfl w_Nu_26 (by decide) (by omega) (by assumption) rfl ?_
                  refine mj_iload d_Nu_choose_81 rfl ?_
                  refine mz_ishr d_Nu_choose_83 (rfl) (rfl) (by omega) (by omega) ?_
                  rw [← hu1, ← hu2]
                  refine mz_icmp_lt 122 d_Nu_choose_84 (by decide) (by omega) (by omega) (fun c_84 => ?_) (fun c_84 => ?_)
                  · refine mz_inc6 d_Nu_choose_122 (rfl) ?_
                    refine mj_goto 24 d_Nu_choose_125 (by decide) ?_
                    have w := ih2 (a + 1) S_63 p CA1 (by omega) f1 hn1 hp h191 h181 hc1 (.int (iZ nx)) rfl
                    rw [chR, if_pos ⟨ht, hkk⟩, ← hnx, ← hu1, ← hu2, if_neg (by omega)]
                    exact w
                  · refine mj_aload_n d_Nu_choose_87 rfl ?_
                    refine mj_get (ci := 6) (j := 0) d_Nu_choose_88 rfl w_Nu_9 (by decide) (by omega) (by assumption) rfl ?_
                    refine mj_iload_n d_Nu_choose_91 rfl ?_
                    refine mj_iload d_Nu_choose_92 rfl ?_
                    refine mz_iast d_Nu_choose_94 (by omega) (by assumption) (rfl) (by omega) (fun S_94 w_94 e_94 f_94 => ?_)
                    have hn2 := f_94.at hn2 (by simp; try omega)
                    have h191 := f_94.at h191 (by simp; try omega)
                    refine mj_aload_n d_Nu_choose_95 rfl ?_
                    refine mj_get (ci := 6) (j := 1) d_Nu_choose_96 rfl w_Nu_15 (by decide) (by omega) (by assumption) rfl ?_
                    refine mj_iload d_Nu_choose_99 rfl ?_
                    refine mz_iconst d_Nu_choose_101 ?_
                    refine mz_zast d_Nu_choose_102 (by omega) (by assumption) (rfl) (by omega) (by decide) (fun S_102 w_102 e_102 f_102 => ?_)
                    have hn2 := f_102.at hn2 (by simp; try omega)
                    have e_94 := f_102.at e_94 (by simp; try omega)
                    have f2 : mj_fr S_16 S_102 [17, 18, 19] := (f1.tr f_94 (l := [17, 18, 19]) (by simp) (by simp)).tr f_102 (by simp) (by simp)
                    have hTn : ∀ j, j < 6 → va_up TA a 1 j = if va_up tk a true j then 1 else 0 := fun j hj => by
                      by_cases e : j = a
                      · subst e; rw [va_up_self, va_up_self]; rfl
                      · rw [va_up_ne _ _ e, va_up_ne _ _ e]; exact hT j hj
                    have hcn : ∀ j, j < k + 1 → va_up CA1 k (a : Int) j = (va_up ch k a j : Nat) ∧ va_up ch k a j < 6 := fun j hj => by
                      by_cases e : j = k
                      · subst e; rw [va_up_self, va_up_self]; exact ⟨rfl, by omega⟩
                      · rw [va_up_ne _ _ e, va_up_ne _ _ e]; exact ⟨(hc1 j (by omega)).trans (hc j (by omega)).1, (hc j (by omega)).2⟩
                    refine mj_aload_n d_Nu_choose_103 rfl ?_
                    refine mj_aload_n d_Nu_choose_104 rfl ?_
                    refine mj_aload_n d_Nu_choose_105 rfl ?_
                    refine mj_iload_n d_Nu_choose_106 rfl ?_
                    refine mz_iconst d_Nu_choose_107 ?_
                    refine mz_iadd d_Nu_choose_108 ?_
                    refine mj_iload d_Nu_choose_109 rfl ?_
                    refine mz_callV4v (ci := 6) d_Nu_choose_111 (ih (k + 1) nx p.1 p.2 (d - 1) S_102 (va_up ch k a) (va_up tk a true) (va_up CA1 k a) (va_up TA a 1) (by omega) hn2 (hm.fr f2) e_94 e_102 hTn hA (by omega) hcn hor hp (by omega)) cw_Nu_choose lk_Nu_32 rfl rfl (by omega) (by assumption) (by omega) rfl (fun S_111 h_111 => ?_)
                    obtain ⟨g1, g2, g3, g4, CA2, g5, g6⟩ := h_111
                    have hn3 : S_111.1 17 = .inr (6, [.ref 18, .ref 19, .int (iZ A), .int (iZ (chI A KM B KW m (k + 1) nx (va_up ch k a) (va_up tk a true) p).1), .int (iZ (chI A KM B KW m (k + 1) nx (va_up ch k a) (va_up tk a true) p).2)]) := g2
                    have hw2 := g1.w
                    refine mj_aload_n d_Nu_choose_114 rfl ?_
                    refine mj_get (ci := 6) (j := 1) d_Nu_choose_115 rfl w_Nu_15 (by decide) (by omega) (by assumption) rfl ?_
                    refine mj_iload d_Nu_choose_118 rfl ?_
                    refine mz_iconst d_Nu_choose_120 ?_
                    refine mz_zast d_Nu_choose_121 (by omega) (by assumption) (rfl) (by omega) (by decide) (fun S_121 w_121 e_121 f_121 => ?_)
                    have hn3 := f_121.at hn3 (by simp; try omega)
                    have g5 := f_121.at g5 (by simp; try omega)
                    rw [mj_up_undo (by rw [hTa, ht]; rfl)] at e_121
                    refine mz_inc6 d_Nu_choose_122 (rfl) ?_
                    refine mj_goto 24 d_Nu_choose_125 (by decide) ?_
                    have w := ih2 (a + 1) S_121 (chI A KM B KW m (k + 1) nx (va_up ch k a) (va_up tk a true) p) CA2 (by omega) ((f2.tr g1 (l := [17, 18, 19]) (by simp) (by simp)).tr f_121 (by simp) (by simp)) hn3 g3 e_121 g5 (fun j hj => by
                      rw [g6 j (by omega), va_up_ne _ _ (by omega)]; exact hc1 j hj) (.int (iZ nx)) rfl
                    rw [chR, if_pos ⟨ht, hkk⟩, ← hnx, ← hu1, ← hu2, if_pos (by omega)]
                    exact w
      exact loop A 0 S_16 (g, s) CA (by omega) (mj_fr.rf _ _) hn hgl h19 h18 (fun _ _ => rfl) (.retAddr 0) rfl
    · omega
end NU
