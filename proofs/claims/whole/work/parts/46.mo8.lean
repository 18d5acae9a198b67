/-! the reference: formula -/
/-- the valences of a formula's atoms -/
def tkV (c : Nat → Nat) : Nat → Int
  | 0 => 0
  | m + 1 => (c (9 - (m + 1)) : Int) * mj_VAL (9 - (m + 1)) + tkV c m
noncomputable def mres (A h : Nat) (KM : Nat → Nat) : List Nat :=
  if 0 ≤ mj_sum (fun j => mj_VAL (KM j)) A - h ∧ (mj_sum (fun j => mj_VAL (KM j)) A - h) % 2 = 0 then es A (A * (A - 1) / 2) KM (A * (A - 1) / 2) 0 ((mj_sum (fun j => mj_VAL (KM j)) A - h) / 2) (fun _ => 0) (fun j => mj_VAL (KM j)) [] else []
theorem esR_le {f : Nat → List Nat → List Nat} (hf : ∀ v acc, acc.length ≤ 501 → (f v acc).length ≤ 501) : ∀ v acc, acc.length ≤ 501 → (esR f v acc).length ≤ 501 := by
  intro v
  induction v with
  | zero => intro acc h; exact h
  | succ v ih =>
    intro acc h
    rw [esR]
    split
    · exact h
    · exact ih _ (hf v acc h)
theorem es_le {A P : Nat} {KM : Nat → Nat} : ∀ r p left cd F acc, acc.length ≤ 501 → (es A P KM r p left cd F acc).length ≤ 501 := by
  intro r
  induction r with
  | zero =>
    intro p left cd F acc h
    rw [es]
    split
    · exact h
    · split
      · rw [List.length_append]; show acc.length + 1 ≤ 501; omega
      · exact h
  | succ r ih =>
    intro p left cd F acc h
    rw [es]
    refine esR_le (fun v acc h => ?_) _ acc h
    split
    · exact h
    · exact ih _ _ _ _ _ h
theorem mres_le (A h : Nat) (KM : Nat → Nat) : (mres A h KM).length ≤ 501 := by
  unfold mres
  split
  · exact es_le _ _ _ _ _ _ (by decide)
  · exact Nat.zero_le _
def smV (p : Nat × (Nat → Int)) : Int := mj_sum (fun j => mj_VAL (p.2 j).toNat) p.1
theorem smV_1 {e : Nat} : ∀ (m : Nat) (p : Nat × (Nat → Int)), smV (tk1 e m p) = smV p + (m : Int) * mj_VAL e := by
  intro m
  induction m with
  | zero => intro p; rw [tk1]; simp
  | succ m ih =>
    intro p
    rw [tk1, ih]
    have e1 : smV (p.1 + 1, va_up p.2 p.1 (e : Int)) = smV p + mj_VAL e := by
      show mj_sum (fun j => mj_VAL (va_up p.2 p.1 (e : Int) j).toNat) (p.1 + 1) = _
      rw [mj_sum, va_up_self, Int.toNat_natCast]
      rw [mj_sum_congr (g := fun j => mj_VAL (p.2 j).toNat) p.1 (fun y hy => by show mj_VAL (va_up p.2 p.1 (e : Int) y).toNat = _; rw [va_up_ne _ _ (by omega)])]
      rfl
    rw [e1, show ((m + 1 : Nat) : Int) = (m : Int) + 1 by omega, Int.add_mul]
    omega
theorem smV_A {c : Nat → Nat} : ∀ (m : Nat) (p : Nat × (Nat → Int)), smV (tkA c m p) = smV p + tkV c m := by
  intro m
  induction m with
  | zero => intro p; rw [tkA, tkV]; omega
  | succ m ih =>
    intro p
    rw [tkA, ih, smV_1, tkV]
    omega
theorem tkV_eq (c : Nat → Nat) : tkV c 9 = mj_sum (fun j => mj_VAL (ktk c j)) (tkS c 9) := by
  have h := smV_A (c := c) 9 (0, fun _ => 0)
  have hk := ktk_spec (c := c) (K := fun _ => 0)
  have h0 : smV (0, fun _ => 0) = 0 := rfl
  rw [h0] at h
  unfold smV at h
  rw [hk.1] at h
  rw [show tkV c 9 = 0 + tkV c 9 by omega, ← h]
  exact mj_sum_congr _ (fun y hy => by rw [(hk.2 y hy).1, Int.toNat_natCast])
theorem tkV_r {c : Nat → Nat} (hc : ∀ j, j < 10 → c j ≤ 99) : ∀ m, m ≤ 9 → 0 ≤ tkV c m ∧ tkV c m ≤ 400 * m ∧ tkS c m ≤ 99 * m := by
  intro m
  induction m with
  | zero => intro _; exact ⟨by simp [tkV], by simp [tkV], by simp [tkS]⟩
  | succ m ih =>
    intro h
    have h1 := ih (by omega)
    have h2 := hc (9 - (m + 1)) (by omega)
    have h3 := mj_VAL_r (9 - (m + 1))
    have h4 : 0 ≤ (c (9 - (m + 1)) : Int) * mj_VAL (9 - (m + 1)) := Int.mul_nonneg (by omega) h3.1
    have h5 : (c (9 - (m + 1)) : Int) * mj_VAL (9 - (m + 1)) ≤ 99 * 4 := Int.mul_le_mul (by omega) h3.2 h3.1 (by omega)
    rw [tkV, tkS]
    omega
section MO8
variable {Γ : mj_G} {d L : Nat} {S0 : mj_S} {C : Nat → Int} {wr am hy sr tr rs fo sg : Int} {Q : Int → mj_S → Prop} {c : Nat → Nat}
theorem fo_sum {S : mj_S} {y1 y2 y3 y4 y5 : Value} (hw : S.2.1 = 65) (g1 : c1 y1) (g2 : c1 y2) (g3 : c1 y3) (g4 : c1 y4) (g5 : c1 y5) (hL : L ≤ 60) (hst : mo_st S 0 L wr am hy sr tr rs fo sg) (hmn : mo_mn S c) (hd : 2 ≤ d)
    (Hf : (tkS c 9 < 1 ∨ 6 < tkS c 9) → ∀ S', mj_fr S S' [40] → mo_st S' 0 L L am hy sr tr rs fo sg → Q (-5) S')
    (Hok : (1 ≤ tkS c 9 ∧ tkS c 9 ≤ 6) → ∀ z2 z4, c1 z2 → c1 z4 → mj_Ok Γ d M_Mo_formula 0 0 259 [.ref 40, y1, z2, .int (iZ (tkV c 9)), z4, y5] [] S (mj_I Q)) :
    mj_Ok Γ d M_Mo_formula 0 0 192 [.ref 40, y1, y2, y3, y4, y5] [] S (mj_I Q) := by
  obtain ⟨Mn, k1, k2⟩ := hmn
  have h1 : S.1 40 = _ := hst
  have hr9 := tkV_r (c := c) (fun j hj => (k2 j hj).2) 9 (by omega)
  refine mz_iconst d_Mo_formula_192 ?_
  refine mz_ist2 d_Mo_formula_193 (by unfold mj_c1; simp only [List.all_cons, g1, g2, g3, g4, g5]; rfl) ?_
  refine mz_iconst d_Mo_formula_194 ?_
  refine mz_ist3 d_Mo_formula_195 (by unfold mj_c1; simp only [List.all_cons, g1, g3, g4, g5]; rfl) ?_
  refine mz_iconst d_Mo_formula_196 ?_
  refine mz_ist4 d_Mo_formula_197 (by unfold mj_c1; simp only [List.all_cons, g1, g4, g5]; rfl) ?_
  have loop : ∀ (m : Nat) (s : Nat) (v : Int), m ≤ 9 → s + tkS c m = tkS c 9 → v + tkV c m = tkV c 9 → mj_Ok Γ d M_Mo_formula 0 0 199 [.ref 40, y1, .int (iZ s), .int (iZ v), .int (iZ ((9 - m : Nat) : Int)), y5] [] S (mj_I Q) := by
    intro m
    induction m with
    | zero =>
      intro s v _ hs hv
      rw [tkS, Nat.add_zero] at hs
      rw [tkV, Int.add_zero] at hv
      subst hs
      subst hv
      have heavy : (tkS c 9 < 1 ∨ 6 < tkS c 9) → mj_Ok Γ d M_Mo_formula 0 0 248 [.ref 40, y1, .int (iZ (tkS c 9 : Nat)), .int (iZ (tkV c 9)), .int (iZ ((9 - 0 : Nat) : Int)), y5] [] S (mj_I Q) := by
        intro hh
        refine mj_aload_n d_Mo_formula_248 rfl ?_
        refine mz_bipush d_Mo_formula_249 (by decide) ?_
        refine mj_aload_n d_Mo_formula_251 rfl ?_
        refine mj_get (ci := 9) (j := 1) d_Mo_formula_252 rfl w_Mo_88 (by decide) (by omega) (by assumption) rfl ?_
        refine mz_callV2i (ci := 9) d_Mo_formula_255 (m_Mo_fault (d := 0) hw hst) cw_Mo_fault lk_Mo_103 rfl rfl (by omega) (by assumption) (by omega) rfl (fun z_255 S_255 h_255 => ?_)
        obtain ⟨q1, rfl, q3⟩ := h_255
        refine mz_iret d_Mo_formula_258 rfl (rfl) ?_
        exact Hf hh _ q1 q3
      refine mj_iload d_Mo_formula_199 rfl ?_
      refine mz_bipush d_Mo_formula_201 (by decide) ?_
      refine mz_icmp_ge 238 d_Mo_formula_203 (by decide) (by omega) (by omega) (fun c_203 => ?_) (fun c_203 => ?_)
      · refine mj_iload_n d_Mo_formula_238 rfl ?_
        refine mz_if_eq 248 d_Mo_formula_239 (by decide) (by omega) (fun c_239 => ?_) (fun c_239 => ?_)
        · exact heavy (by omega)
        · refine mj_iload_n d_Mo_formula_242 rfl ?_
          refine mz_bipush d_Mo_formula_243 (by decide) ?_
          refine mz_icmp_le 259 d_Mo_formula_245 (by decide) (by omega) (by omega) (fun c_245 => ?_) (fun c_245 => ?_)
          · exact Hok (by omega) _ _ rfl rfl
          · exact heavy (by omega)
      · omega
    | succ m ih =>
      intro s v hm hs hv
      rw [tkS] at hs
      rw [tkV] at hv
      have ke := k2 (9 - (m + 1)) (by omega)
      refine mj_iload d_Mo_formula_199 rfl ?_
      refine mz_bipush d_Mo_formula_201 (by decide) ?_
      refine mz_icmp_ge 238 d_Mo_formula_203 (by decide) (by omega) (by omega) (fun c_203 => ?_) (fun c_203 => ?_)
      · omega
      · refine mj_iload_n d_Mo_formula_206 rfl ?_
        refine mj_aload_n d_Mo_formula_207 rfl ?_
        refine mj_get (ci := 9) (j := 23) d_Mo_formula_208 rfl w_Mo_55 (by decide) (by omega) (by assumption) rfl ?_
        refine mj_iload d_Mo_formula_211 rfl ?_
        refine mz_iald (j := 9 - (m + 1)) d_Mo_formula_213 (by omega) (by assumption) (by omega) (by omega) ?_
        rw [ke.1]
        refine mz_iadd d_Mo_formula_214 ?_
        refine mz_ist2 d_Mo_formula_215 (by unfold mj_c1; simp only [List.all_cons, g1, g5]; rfl) ?_
        refine mj_iload_n d_Mo_formula_216 rfl ?_
        refine mj_aload_n d_Mo_formula_217 rfl ?_
        refine mj_get (ci := 9) (j := 23) d_Mo_formula_218 rfl w_Mo_55 (by decide) (by omega) (by assumption) rfl ?_
        refine mj_iload d_Mo_formula_221 rfl ?_
        refine mz_iald (j := 9 - (m + 1)) d_Mo_formula_223 (by omega) (by assumption) (by omega) (by omega) ?_
        rw [ke.1]
        refine mj_iload d_Mo_formula_224 rfl ?_
        refine mz_callS1i d_Mo_formula_226 (m_Mo_valence (d := 0) (k := 9 - (m + 1)) (by omega)) cw_Mo_valence lk_Mo_114 (by omega) rfl (fun z_226 S_226 h_226 => ?_)
        obtain ⟨e226, rfl⟩ := h_226
        rw [e226]
        refine mz_imul d_Mo_formula_229 ?_
        refine mz_iadd d_Mo_formula_230 ?_
        refine mz_ist3 d_Mo_formula_231 (by unfold mj_c1; simp only [List.all_cons, g1, g5]; rfl) ?_
        refine mz_inc4 d_Mo_formula_232 (by unfold mj_c1; simp only [List.all_cons, g1, g5]; rfl) ?_
        refine mj_goto 199 d_Mo_formula_235 (by decide) ?_
        have w := ih (s + c (9 - (m + 1))) (v + (c (9 - (m + 1)) : Int) * mj_VAL (9 - (m + 1))) (by omega) (by omega) (by omega)
        rw [show ((s + c (9 - (m + 1)) : Nat) : Int) = (s : Int) + (c (9 - (m + 1)) : Nat) by omega, show ((9 - m : Nat) : Int) = ((9 - (m + 1) : Nat) : Int) + 1 by omega] at w
        exact w
  exact loop 9 0 0 (by omega) (by omega) (by omega)
/-- the atoms so far -/
def atI (S : mj_S) (L : Nat) (wr am hy sr rs fo sg : Int) (p : Nat × (Nat → Int)) : Prop :=
  mo_st S 0 L wr am hy sr p.1 rs fo sg ∧ S.1 44 = .inl (0, 6, .inl (mj_z p.2)) ∧ ∃ Fz, S.1 46 = .inl (0, 6, .inl (mj_z Fz)) ∧ ∀ j, j < p.1 → Fz j = mj_VAL (p.2 j).toNat
theorem fo_atoms {S : mj_S} {Kd Fz : Nat → Int} {y1 y2 y3 y4 y5 : Value} (hw : S.2.1 = 65) (g1 : c1 y1) (g2 : c1 y2) (g3 : c1 y3) (g4 : c1 y4) (g5 : c1 y5) (hst : mo_st S 0 L wr am hy sr tr rs fo sg) (hmn : mo_mn S c) (h41 : S.1 44 = .inl (0, 6, .inl (mj_z Kd))) (h43 : S.1 46 = .inl (0, 6, .inl (mj_z Fz))) (hs : tkS c 9 ≤ 6) (hd : 1 ≤ d)
    (Hok : ∀ S' z4 z5, c1 z4 → c1 z5 → mj_fr S S' [40, 44, 46] → atI S' L wr am hy sr rs fo sg (tkA c 9 (0, Kd)) → mj_Ok Γ d M_Mo_formula 0 0 336 [.ref 40, y1, y2, y3, z4, z5] [] S' (mj_I Q)) :
    mj_Ok Γ d M_Mo_formula 0 0 259 [.ref 40, y1, y2, y3, y4, y5] [] S (mj_I Q) := by
  obtain ⟨Mn, k1, k2⟩ := hmn
  have h1 : S.1 40 = _ := hst
  refine mj_aload_n d_Mo_formula_259 rfl ?_
  refine mz_iconst d_Mo_formula_260 ?_
  refine mz_put (ci := 9) (j := 9) d_Mo_formula_261 rfl w_Mo_117 (by decide) rfl (by omega) (by assumption) (Nat.le_of_ble_eq_true rfl) (mj_fit_int _) rfl (fun S_261 w_261 e_261 f_261 => ?_)
  refine mz_iconst d_Mo_formula_264 ?_
  refine mz_ist4 d_Mo_formula_265 (by unfold mj_c1; simp only [List.all_cons, g1, g2, g3, g4, g5]; rfl) ?_
  have outer : ∀ (m : Nat) (p : Nat × (Nat → Int)) (S1 : mj_S) (x5 : Value), c1 x5 → m ≤ 9 → p.1 + tkS c m = tkS c 9 → tkA c m p = tkA c 9 (0, Kd) → mj_fr S S1 [40, 44, 46] → atI S1 L wr am hy sr rs fo sg p → mj_Ok Γ d M_Mo_formula 0 0 267 [.ref 40, y1, y2, y3, .int (iZ ((9 - m : Nat) : Int)), x5] [] S1 (mj_I Q) := by
    intro m
    induction m with
    | zero =>
      intro p S1 x5 q5 _ hp he f1 ha
      have he : p = tkA c 9 (0, Kd) := he
      subst he
      refine mj_iload d_Mo_formula_267 rfl ?_
      refine mz_bipush d_Mo_formula_269 (by decide) ?_
      refine mz_icmp_ge 336 d_Mo_formula_271 (by decide) (by omega) (by omega) (fun c_271 => ?_) (fun c_271 => ?_)
      · exact Hok S1 _ _ rfl q5 f1 ha
      · omega
    | succ m ih =>
      intro p S1 x5 q5 hm hp he f1 ha
      have ke := k2 (9 - (m + 1)) (by omega)
      rw [tkS] at hp
      rw [tkA] at he
      have inner : ∀ (q i : Nat) (p2 : Nat × (Nat → Int)) (S2 : mj_S), i + q = c (9 - (m + 1)) → p2.1 + q + tkS c m = tkS c 9 → tk1 ((9 - (m + 1) : Nat) : Int) q p2 = tk1 ((9 - (m + 1) : Nat) : Int) (c (9 - (m + 1))) p → mj_fr S S2 [40, 44, 46] → atI S2 L wr am hy sr rs fo sg p2 → mj_Ok Γ d M_Mo_formula 0 0 277 [.ref 40, y1, y2, y3, .int (iZ ((9 - (m + 1) : Nat) : Int)), .int (iZ i)] [] S2 (mj_I Q) := by
        intro q
        induction q with
        | zero =>
          intro i p2 S2 hi hp2 he2 f2 ha2
          have he2 : p2 = _ := he2
          have k12 := f2.at k1 (by simp)
          have h12 : S2.1 40 = _ := ha2.1
          have hw2 := f2.w.trans hw
          refine mj_iload d_Mo_formula_277 rfl ?_
          refine mj_aload_n d_Mo_formula_279 rfl ?_
          refine mj_get (ci := 9) (j := 23) d_Mo_formula_280 rfl w_Mo_55 (by decide) (by omega) (by assumption) rfl ?_
          refine mj_iload d_Mo_formula_283 rfl ?_
          refine mz_iald (j := 9 - (m + 1)) d_Mo_formula_285 (by omega) (by assumption) (by omega) (by omega) ?_
          rw [ke.1]
          refine mz_icmp_ge 330 d_Mo_formula_286 (by decide) (by omega) (by omega) (fun c_286 => ?_) (fun c_286 => ?_)
          · refine mz_inc4 d_Mo_formula_330 (by unfold mj_c1; simp only [List.all_cons, g1, g2, g3]; rfl) ?_
            refine mj_goto 267 d_Mo_formula_333 (by decide) ?_
            have w := ih p2 S2 (.int (iZ i)) rfl (by omega) (by omega) (by rw [he2]; exact he) f2 ha2
            rw [show ((9 - m : Nat) : Int) = ((9 - (m + 1) : Nat) : Int) + 1 by omega] at w
            exact w
          · omega
        | succ q ihq =>
          intro i p2 S2 hi hp2 he2 f2 ha2
          have k12 := f2.at k1 (by simp)
          obtain ⟨h12, h22, Fz2, h32, h42⟩ := ha2
          have h120 : S2.1 40 = _ := h12
          have hw2 := f2.w.trans hw
          rw [tk1] at he2
          refine mj_iload d_Mo_formula_277 rfl ?_
          refine mj_aload_n d_Mo_formula_279 rfl ?_
          refine mj_get (ci := 9) (j := 23) d_Mo_formula_280 rfl w_Mo_55 (by decide) (by omega) (by assumption) rfl ?_
          refine mj_iload d_Mo_formula_283 rfl ?_
          refine mz_iald (j := 9 - (m + 1)) d_Mo_formula_285 (by omega) (by assumption) (by omega) (by omega) ?_
          rw [ke.1]
          refine mz_icmp_ge 330 d_Mo_formula_286 (by decide) (by omega) (by omega) (fun c_286 => ?_) (fun c_286 => ?_)
          · omega
          · refine mj_aload_n d_Mo_formula_289 rfl ?_
            refine mj_get (ci := 9) (j := 10) d_Mo_formula_290 rfl w_Mo_24 (by decide) (by omega) (by assumption) rfl ?_
            refine mj_aload_n d_Mo_formula_293 rfl ?_
            refine mj_get (ci := 9) (j := 9) d_Mo_formula_294 rfl w_Mo_117 (by decide) (by omega) (by assumption) rfl ?_
            refine mj_iload d_Mo_formula_297 rfl ?_
            refine mz_iast (j := p2.1) d_Mo_formula_299 (by omega) (by assumption) (by omega) (by omega) (fun S_299 w_299 e_299 f_299 => ?_)
            have h120 := f_299.at h120 (by simp)
            have h32 := f_299.at h32 (by simp)
            refine mj_aload_n d_Mo_formula_300 rfl ?_
            refine mj_get (ci := 9) (j := 12) d_Mo_formula_301 rfl w_Mo_30 (by decide) (by omega) (by assumption) rfl ?_
            refine mj_aload_n d_Mo_formula_304 rfl ?_
            refine mj_get (ci := 9) (j := 9) d_Mo_formula_305 rfl w_Mo_117 (by decide) (by omega) (by assumption) rfl ?_
            refine mj_iload d_Mo_formula_308 rfl ?_
            refine mz_callS1i d_Mo_formula_310 (m_Mo_valence (d := 0) (k := 9 - (m + 1)) (by omega)) cw_Mo_valence lk_Mo_114 (by omega) rfl (fun z_310 S_310 h_310 => ?_)
            obtain ⟨e310, rfl⟩ := h_310
            rw [e310]
            refine mz_iast (j := p2.1) d_Mo_formula_313 (by omega) (by assumption) (by omega) (by omega) (fun S_313 w_313 e_313 f_313 => ?_)
            have h120 := f_313.at h120 (by simp)
            refine mj_aload_n d_Mo_formula_314 rfl ?_
            refine mj_dup d_Mo_formula_315 rfl ?_
            refine mj_get (ci := 9) (j := 9) d_Mo_formula_316 rfl w_Mo_117 (by decide) (by omega) (by assumption) rfl ?_
            refine mz_iconst d_Mo_formula_319 ?_
            refine mz_iadd d_Mo_formula_320 ?_
            refine mz_put (ci := 9) (j := 9) d_Mo_formula_321 rfl w_Mo_117 (by decide) rfl (by omega) (by assumption) (Nat.le_of_ble_eq_true rfl) (mj_fit_int _) rfl (fun S_321 w_321 e_321 f_321 => ?_)
            refine mz_inc5 d_Mo_formula_324 (by unfold mj_c1; simp only [List.all_cons, g1, g2, g3]; rfl) ?_
            refine mj_goto 277 d_Mo_formula_327 (by decide) ?_
            have f3 : mj_fr S2 S_321 [40, 44, 46] := (f_299.tr f_313 (l := [40, 44, 46]) (by simp) (by simp)).tr f_321 (by simp) (by simp)
            have w := ihq (i + 1) (p2.1 + 1, va_up p2.2 p2.1 ((9 - (m + 1) : Nat) : Int)) S_321 (by omega) (by show p2.1 + 1 + q + tkS c m = _; omega) he2 (f2.tr f3 (by simp) (by simp)) ⟨e_321, f_321.at (f_313.at e_299 (by simp)) (by simp), _, f_321.at e_313 (by simp), fun j hj => ?_⟩
            · rw [show ((i + 1 : Nat) : Int) = (i : Int) + 1 by omega] at w
              exact w
            · have hj : j < p2.1 + 1 := hj
              show _ = mj_VAL (va_up p2.2 p2.1 ((9 - (m + 1) : Nat) : Int) j).toNat
              by_cases e : j = p2.1
              · subst e; rw [va_up_self, va_up_self, Int.toNat_natCast]
              · rw [va_up_ne _ _ e, va_up_ne _ _ e]; exact h42 j (by omega)
      have h11 : S1.1 40 = _ := ha.1
      refine mj_iload d_Mo_formula_267 rfl ?_
      refine mz_bipush d_Mo_formula_269 (by decide) ?_
      refine mz_icmp_ge 336 d_Mo_formula_271 (by decide) (by omega) (by omega) (fun c_271 => ?_) (fun c_271 => ?_)
      · omega
      · refine mz_iconst d_Mo_formula_274 ?_
        refine mz_ist5 d_Mo_formula_275 (by unfold mj_c1; simp only [List.all_cons, g1, g2, g3, q5]; rfl) ?_
        exact inner (c (9 - (m + 1))) 0 p S1 (by omega) (by omega) rfl f1 ha
  exact outer 9 (0, Kd) S_261 y5 g5 (by omega) (by show 0 + _ = _; omega) rfl (f_261.tr (mj_fr.rf _ []) (by simp) (by simp)) ⟨e_261, f_261.at h41 (by simp), Fz, f_261.at h43 (by simp), fun j hj => absurd hj (Nat.not_lt_zero j)⟩
/-- the search's result taken over -/
theorem fo_take {S : mj_S} {A h : Nat} {KM : Nat → Nat} {E : List Nat} {Kd El Tl Fr Mn : Nat → Int} {y1 y2 y3 y4 y5 : Value} (hw : S.2.1 = 65) (g1 : c1 y1) (g2 : c1 y2) (g3 : c1 y3) (g4 : c1 y4) (g5 : c1 y5) (hL : L ≤ 60) (hst : mo_st S 0 L wr am hy sr A rs E.length sg) (hl : mj_lc S C) (h39 : S.1 42 = .inl (0, 6, .inl (mj_z El))) (h40 : S.1 43 = .inl (0, 7500, .inl (mj_z Tl))) (h41 : S.1 44 = .inl (0, 6, .inl (mj_z Kd))) (hK : ∀ j, j < A → Kd j = KM j ∧ KM j < 9) (h45 : S.1 48 = .inl (0, 7515, .inl (mj_z Fr))) (hF : frL Fr E) (h51 : S.1 54 = .inl (0, 10, .inl (mj_z Mn))) (hM9 : Mn 9 = h) (hh : h ≤ 1000) (hgb : mo_gb S) (hA : A ≤ 6) (hE : E.length ≤ 501) (hd : 1 ≤ d)
    (Hf : 500 < E.length → ∀ S', mj_fr S S' [40] → mo_st S' 0 L L am hy sr A rs E.length sg → Q (-6) S')
    (Hok : E.length ≤ 500 → ∀ S', mj_fr S S' [40, 42, 43] → mo_IL S' 0 L C (-1) A h KM E → Q E.length S') :
    mj_Ok Γ d M_Mo_formula 0 0 376 [.ref 40, y1, y2, y3, y4, y5] [] S (mj_I Q) := by
  have h1 : S.1 40 = _ := hst
  refine mj_aload_n d_Mo_formula_376 rfl ?_
  refine mj_get (ci := 9) (j := 15) d_Mo_formula_377 rfl w_Mo_120 (by decide) (by omega) (by assumption) rfl ?_
  refine mz_sipush d_Mo_formula_380 (by decide) ?_
  refine mz_icmp_le 397 d_Mo_formula_383 (by decide) (by omega) (by omega) (fun c_383 => ?_) (fun c_383 => ?_)
  · refine mj_aload_n d_Mo_formula_397 rfl ?_
    refine mz_iconst d_Mo_formula_398 ?_
    refine mz_put (ci := 9) (j := 3) d_Mo_formula_399 rfl w_Mo_13 (by decide) rfl (by omega) (by assumption) (Nat.le_of_ble_eq_true rfl) (mj_fit_int _) rfl (fun S_399 w_399 e_399 f_399 => ?_)
    have h51' := f_399.at h51 (by simp)
    refine mj_aload_n d_Mo_formula_402 rfl ?_
    refine mj_aload_n d_Mo_formula_403 rfl ?_
    refine mj_get (ci := 9) (j := 9) d_Mo_formula_404 rfl w_Mo_117 (by decide) (by omega) (by assumption) rfl ?_
    refine mz_put (ci := 9) (j := 4) d_Mo_formula_407 rfl w_Mo_129 (by decide) rfl (by omega) (by assumption) (Nat.le_of_ble_eq_true rfl) (mj_fit_int _) rfl (fun S_407 w_407 e_407 f_407 => ?_)
    have h51' := f_407.at h51' (by simp)
    refine mj_aload_n d_Mo_formula_410 rfl ?_
    refine mj_aload_n d_Mo_formula_411 rfl ?_
    refine mj_get (ci := 9) (j := 23) d_Mo_formula_412 rfl w_Mo_55 (by decide) (by omega) (by assumption) rfl ?_
    refine mz_bipush d_Mo_formula_415 (by decide) ?_
    refine mz_iald (j := 9) d_Mo_formula_417 (by omega) (by assumption) (by omega) (by omega) ?_
    rw [hM9]
    refine mz_put (ci := 9) (j := 5) d_Mo_formula_418 rfl w_Mo_132 (by decide) rfl (by omega) (by assumption) (Nat.le_of_ble_eq_true rfl) (mj_fit_int _) rfl (fun S_418 w_418 e_418 f_418 => ?_)
    refine mz_iconst d_Mo_formula_421 ?_
    refine mz_ist5 d_Mo_formula_422 (by unfold mj_c1; simp only [List.all_cons, g1, g2, g3, g4, g5]; rfl) ?_
    have f1 : mj_fr S S_418 [40] := (f_399.tr f_407 (l := [40]) (by simp) (by simp)).tr f_418 (by simp) (by simp)
    have loop2 : ∀ (q i : Nat) (S2 : mj_S) (T2 : Nat → Int), i + q = 15 * E.length → mj_fr S S2 [40, 42, 43] → mo_st S2 0 L (-1) A h E.length A rs E.length sg → (∃ E2, S2.1 42 = .inl (0, 6, .inl (mj_z E2)) ∧ ∀ j, j < A → E2 j = KM j ∧ KM j < 9) → S2.1 43 = .inl (0, 7500, .inl (mj_z T2)) → (∀ j, j < i → T2 j = Fr j) → mj_Ok Γ d M_Mo_formula 0 0 464 [.ref 40, y1, y2, y3, y4, .int (iZ i)] [] S2 (mj_I Q) := by
      intro q
      induction q with
      | zero =>
        intro i S2 T2 hi f2 m2 e2 t2 ht
        have m20 : S2.1 40 = _ := m2
        have hw2 := f2.w.trans hw
        refine mj_iload d_Mo_formula_464 rfl ?_
        refine mz_bipush d_Mo_formula_466 (by decide) ?_
        refine mj_aload_n d_Mo_formula_468 rfl ?_
        refine mj_get (ci := 9) (j := 15) d_Mo_formula_469 rfl w_Mo_120 (by decide) (by omega) (by assumption) rfl ?_
        refine mz_imul d_Mo_formula_472 ?_
        refine mz_icmp_ge 496 d_Mo_formula_473 (by decide) (by omega) (by omega) (fun c_473 => ?_) (fun c_473 => ?_)
        · refine mj_aload_n d_Mo_formula_496 rfl ?_
          refine mj_get (ci := 9) (j := 7) d_Mo_formula_497 rfl w_Mo_135 (by decide) (by omega) (by assumption) rfl ?_
          refine mz_iret d_Mo_formula_500 rfl (rfl) ?_
          exact Hok (by omega) S2 f2 ⟨hw2, hL, ⟨_, _, _, _, m2⟩, ⟨f2.at hl.1 (by simp), hl.2⟩, e2, ⟨T2, t2, fun i hi p hp => by rw [ht _ (by omega)]; exact hF i hi p hp⟩, hgb.fr f2 (by simp) (by simp), hA, hh, by omega⟩
        · omega
      | succ q ih =>
        intro i S2 T2 hi f2 m2 e2 t2 ht
        have m20 : S2.1 40 = _ := m2
        have h452 := f2.at h45 (by simp)
        have hw2 := f2.w.trans hw
        refine mj_iload d_Mo_formula_464 rfl ?_
        refine mz_bipush d_Mo_formula_466 (by decide) ?_
        refine mj_aload_n d_Mo_formula_468 rfl ?_
        refine mj_get (ci := 9) (j := 15) d_Mo_formula_469 rfl w_Mo_120 (by decide) (by omega) (by assumption) rfl ?_
        refine mz_imul d_Mo_formula_472 ?_
        refine mz_icmp_ge 496 d_Mo_formula_473 (by decide) (by omega) (by omega) (fun c_473 => ?_) (fun c_473 => ?_)
        · omega
        · refine mj_aload_n d_Mo_formula_476 rfl ?_
          refine mj_get (ci := 9) (j := 8) d_Mo_formula_477 rfl w_Mo_21 (by decide) (by omega) (by assumption) rfl ?_
          refine mj_iload d_Mo_formula_480 rfl ?_
          refine mj_aload_n d_Mo_formula_482 rfl ?_
          refine mj_get (ci := 9) (j := 16) d_Mo_formula_483 rfl w_Mo_36 (by decide) (by omega) (by assumption) rfl ?_
          refine mj_iload d_Mo_formula_486 rfl ?_
          refine mz_iald d_Mo_formula_488 (by omega) (by assumption) (rfl) (by omega) ?_
          refine mz_iast d_Mo_formula_489 (by omega) (by assumption) (rfl) (by omega) (fun S_489 w_489 e_489 f_489 => ?_)
          refine mz_inc5 d_Mo_formula_490 (by unfold mj_c1; simp only [List.all_cons, g1, g2, g3, g4]; rfl) ?_
          refine mj_goto 464 d_Mo_formula_493 (by decide) ?_
          obtain ⟨E2, e21, e22⟩ := e2
          have w := ih (i + 1) S_489 _ (by omega) (f2.tr f_489 (by simp) (by simp)) (f_489.at m20 (by simp)) ⟨E2, f_489.at e21 (by simp), e22⟩ e_489 (fun j hj => by
            by_cases e : j = i
            · subst e; rw [va_up_self]
            · rw [va_up_ne _ _ e]; exact ht j (by omega))
          rw [show ((i + 1 : Nat) : Int) = (i : Int) + 1 by omega] at w
          exact w
    have loop1 : ∀ (q i : Nat) (S2 : mj_S) (E2 : Nat → Int), i + q = A → mj_fr S S2 [40, 42] → mo_st S2 0 L (-1) A h sr A rs E.length sg → S2.1 42 = .inl (0, 6, .inl (mj_z E2)) → (∀ j, j < i → E2 j = KM j) → mj_Ok Γ d M_Mo_formula 0 0 424 [.ref 40, y1, y2, y3, y4, .int (iZ i)] [] S2 (mj_I Q) := by
      intro q
      induction q with
      | zero =>
        intro i S2 E2 hi f2 m2 e2 he
        have m20 : S2.1 40 = _ := m2
        have hw2 := f2.w.trans hw
        refine mj_iload d_Mo_formula_424 rfl ?_
        refine mj_aload_n d_Mo_formula_426 rfl ?_
        refine mj_get (ci := 9) (j := 4) d_Mo_formula_427 rfl w_Mo_129 (by decide) (by omega) (by assumption) rfl ?_
        refine mz_icmp_ge 453 d_Mo_formula_430 (by decide) (by omega) (by omega) (fun c_430 => ?_) (fun c_430 => ?_)
        · refine mj_aload_n d_Mo_formula_453 rfl ?_
          refine mj_aload_n d_Mo_formula_454 rfl ?_
          refine mj_get (ci := 9) (j := 15) d_Mo_formula_455 rfl w_Mo_120 (by decide) (by omega) (by assumption) rfl ?_
          refine mz_put (ci := 9) (j := 7) d_Mo_formula_458 rfl w_Mo_135 (by decide) rfl (by omega) (by assumption) (Nat.le_of_ble_eq_true rfl) (mj_fit_int _) rfl (fun S_458 w_458 e_458 f_458 => ?_)
          refine mz_iconst d_Mo_formula_461 ?_
          refine mz_ist5 d_Mo_formula_462 (by unfold mj_c1; simp only [List.all_cons, g1, g2, g3, g4]; rfl) ?_
          exact loop2 (15 * E.length) 0 S_458 Tl (by omega) (f2.tr f_458 (by simp) (by simp)) e_458 ⟨E2, f_458.at e2 (by simp), fun j hj => ⟨he j (by omega), (hK j hj).2⟩⟩ (f_458.at (f2.at h40 (by simp)) (by simp)) (fun j hj => absurd hj (Nat.not_lt_zero j))
        · omega
      | succ q ih =>
        intro i S2 E2 hi f2 m2 e2 he
        have m20 : S2.1 40 = _ := m2
        have h412 := f2.at h41 (by simp)
        have hw2 := f2.w.trans hw
        refine mj_iload d_Mo_formula_424 rfl ?_
        refine mj_aload_n d_Mo_formula_426 rfl ?_
        refine mj_get (ci := 9) (j := 4) d_Mo_formula_427 rfl w_Mo_129 (by decide) (by omega) (by assumption) rfl ?_
        refine mz_icmp_ge 453 d_Mo_formula_430 (by decide) (by omega) (by omega) (fun c_430 => ?_) (fun c_430 => ?_)
        · omega
        · refine mj_aload_n d_Mo_formula_433 rfl ?_
          refine mj_get (ci := 9) (j := 6) d_Mo_formula_434 rfl w_Mo_17 (by decide) (by omega) (by assumption) rfl ?_
          refine mj_iload d_Mo_formula_437 rfl ?_
          refine mj_aload_n d_Mo_formula_439 rfl ?_
          refine mj_get (ci := 9) (j := 10) d_Mo_formula_440 rfl w_Mo_24 (by decide) (by omega) (by assumption) rfl ?_
          refine mj_iload d_Mo_formula_443 rfl ?_
          refine mz_iald d_Mo_formula_445 (by omega) (by assumption) (rfl) (by omega) ?_
          refine mz_iast d_Mo_formula_446 (by omega) (by assumption) (rfl) (by omega) (fun S_446 w_446 e_446 f_446 => ?_)
          refine mz_inc5 d_Mo_formula_447 (by unfold mj_c1; simp only [List.all_cons, g1, g2, g3, g4]; rfl) ?_
          refine mj_goto 424 d_Mo_formula_450 (by decide) ?_
          have w := ih (i + 1) S_446 _ (by omega) (f2.tr f_446 (by simp) (by simp)) (f_446.at m20 (by simp)) e_446 (fun j hj => by
            by_cases e : j = i
            · subst e; rw [va_up_self, (hK j (by omega)).1]
            · rw [va_up_ne _ _ e]; exact he j (by omega))
          rw [show ((i + 1 : Nat) : Int) = (i : Int) + 1 by omega] at w
          exact w
    exact loop1 A 0 S_418 El (by omega) (f1.tr (mj_fr.rf _ []) (by simp) (by simp)) e_418 (f1.at h39 (by simp)) (fun j hj => absurd hj (Nat.not_lt_zero j))
  · refine mj_aload_n d_Mo_formula_386 rfl ?_
    refine mz_bipush d_Mo_formula_387 (by decide) ?_
    refine mj_aload_n d_Mo_formula_389 rfl ?_
    refine mj_get (ci := 9) (j := 1) d_Mo_formula_390 rfl w_Mo_88 (by decide) (by omega) (by assumption) rfl ?_
    refine mz_callV2i (ci := 9) d_Mo_formula_393 (m_Mo_fault (d := 0) hw hst) cw_Mo_fault lk_Mo_103 rfl rfl (by omega) (by assumption) (by omega) rfl (fun z_393 S_393 h_393 => ?_)
    obtain ⟨q1, rfl, q3⟩ := h_393
    refine mz_iret d_Mo_formula_396 rfl (rfl) ?_
    exact Hf (by omega) _ q1 q3
theorem mj_vs_sum {F : Nat → Int} : ∀ (m a : Nat), mj_sum F (a + m) = mj_sum F a + mj_vs F m a := by
  intro m
  induction m with
  | zero => intro a; rw [mj_vs, Nat.add_zero]; omega
  | succ m ih =>
    intro a
    have h := ih (a + 1)
    rw [show a + 1 + m = a + (m + 1) by omega, mj_sum] at h
    rw [mj_vs]
    omega
/-- what formula answers, and what the reference is then -/
def mo_foP (S' : mj_S) (L : Nat) (C : Nat → Int) (n h : Nat) (KM : Nat → Nat) (acc : List Nat) (z : Int) : Prop :=
  ((fread L C).1 ≠ -1 ∧ z = (fread L C).1 ∧ mo_IL S' 0 L C ((fread L C).2.1 : Nat) n h KM acc) ∨
  ((fread L C).1 = -1 ∧ ((500 < (mres (tkS (fread L C).2.2 9) ((fread L C).2.2 9) (ktk (fread L C).2.2)).length ∧ z = -6 ∧ mo_IL S' 0 L C (L : Nat) n h KM acc) ∨
    ((mres (tkS (fread L C).2.2 9) ((fread L C).2.2 9) (ktk (fread L C).2.2)).length ≤ 500 ∧ z = (mres (tkS (fread L C).2.2 9) ((fread L C).2.2 9) (ktk (fread L C).2.2)).length ∧ mo_IL S' 0 L C (-1) (tkS (fread L C).2.2 9) ((fread L C).2.2 9) (ktk (fread L C).2.2) (mres (tkS (fread L C).2.2 9) ((fread L C).2.2 9) (ktk (fread L C).2.2)))))
theorem m_Mo_formula {S : mj_S} {rf fp : Int} {n h : Nat} {KM : Nat → Nat} {acc : List Nat} (hI : mo_IL S rf L C fp n h KM acc) (hd : 5 ≤ d) : mj_Met Γ d y_Mo_formula M_Mo_formula [.ref 40] S 0 0 (mj_I fun z S' => mj_fr S S' [40, 42, 43, 44, 45, 46, 47, 48, 49, 50, 54] ∧ mo_foP S' L C n h KM acc z) := by
  obtain ⟨hw, hL, ⟨tr, rs, fo, sg, hst⟩, hl, ⟨El, h39, h39'⟩, ⟨Tl, h40, h40'⟩, hgb, hn6, hh, hal⟩ := hI
  have h1 : S.1 40 = _ := hst
  obtain ⟨Mn0, h51⟩ := hgb.1 54 (by omega) (by omega)
  have h51 : S.1 54 = .inl (0, 10, .inl (mj_z Mn0)) := h51
  obtain ⟨Q, hQ⟩ : ∃ Q : Int → mj_S → Prop, Q = (fun (z : Int) (S' : mj_S) => mj_fr S S' [40, 42, 43, 44, 45, 46, 47, 48, 49, 50, 54] ∧ mo_foP S' L C n h KM acc z) := ⟨_, rfl⟩
  rw [← hQ]
  -- a fault found: all else stays
  have bad : ∀ (S' : mj_S) (p : Int) (tr rs fo : Int), mj_fr S S' [40, 44, 45, 46, 47, 48, 49, 50, 54] → mo_gb S' → mo_st S' 0 L p n h acc.length tr rs fo sg → mo_IL S' 0 L C p n h KM acc := by
    intro S' p tr' rs' fo' f' gb' st'
    exact ⟨f'.w.trans hw, hL, ⟨_, _, _, _, st'⟩, ⟨f'.at hl.1 (by simp), hl.2⟩, ⟨El, f'.at h39 (by simp), h39'⟩, ⟨Tl, f'.at h40 (by simp), h40'⟩, gb', hn6, hh, hal⟩
  have gb51 : ∀ (S' : mj_S) (c : Nat → Nat), mj_fr S S' [40, 54] → mo_mn S' c → mo_gb S' := by
    intro S' c f' hm
    obtain ⟨Mn, k1, -⟩ := hm
    refine hgb.fr f' (by simp) (fun o ho h1 h2 => ?_)
    simp only [List.mem_cons, List.not_mem_nil, or_false] at ho
    have : o = 54 := by omega
    subst this
    exact ⟨Mn, k1⟩
  have two : ∀ l : List Nat, (∀ j ∈ l, j ∈ [40, 42, 43, 44, 45, 46, 47, 48, 49, 50, 54]) → ∀ S', mj_fr S S' l → mj_fr S S' [40, 42, 43, 44, 45, 46, 47, 48, 49, 50, 54] := fun l hl S' f' => ⟨f'.1, fun j hj => f'.2 j (fun h => hj (hl j h))⟩
  refine mj_Met.of (by decide) ⟨rfl, rfl⟩ rfl rfl rfl ?_
  refine mj_aload_n d_Mo_formula_0 rfl ?_
  refine mz_iconst d_Mo_formula_1 ?_
  refine mz_put (ci := 9) (j := 0) d_Mo_formula_2 rfl w_Mo_85 (by decide) rfl (by omega) (by assumption) (Nat.le_of_ble_eq_true rfl) (mj_fit_int _) rfl (fun S_2 w_2 e_2 f_2 => ?_)
  refine mz_iconst d_Mo_formula_5 ?_
  refine mz_ist1 d_Mo_formula_6 (rfl) ?_
  -- from the counts on
  have rest : ∀ (c : Nat → Nat) (S2 : mj_S) (y1 y2 y3 y4 y5 : Value), c1 y1 → c1 y2 → c1 y3 → c1 y4 → c1 y5 → mj_fr S S2 [40, 54] → mo_st S2 0 L fp n h acc.length tr rs fo sg → mo_mn S2 c → fread L C = (if tkS c 9 < 1 ∨ 6 < tkS c 9 then -5 else -1, L, c) → mj_Ok Γ d M_Mo_formula 0 0 192 [.ref 40, y1, y2, y3, y4, y5] [] S2 (mj_I Q) := by
    intro c S2 y1 y2 y3 y4 y5 g1 g2 g3 g4 g5 f2 m2 hmn hfr
    have hw2 := f2.w.trans hw
    refine fo_sum hw2 g1 g2 g3 g4 g5 hL m2 hmn (by omega) (fun hh S' f' st' => ?_) (fun hs z2 z4 q2 q4 => ?_)
    · rw [if_pos hh] at hfr
      rw [hQ]
      have f3 : mj_fr S S' [40, 54] := f2.tr f' (by simp) (by simp)
      obtain ⟨Mn, k1, k2⟩ := hmn
      refine ⟨two _ (by simp) _ f3, Or.inl ⟨by rw [hfr]; simp, by rw [hfr], ?_⟩⟩
      rw [hfr]
      exact bad S' L _ _ _ (f3.tr (mj_fr.rf _ []) (by simp) (by simp)) (gb51 S' c f3 ⟨Mn, f'.at k1 (by simp), k2⟩) st'
    · rw [if_neg (by omega)] at hfr
      have gb2 := gb51 S2 c f2 hmn
      obtain ⟨Kd, h41⟩ := gb2.1 44 (by omega) (by omega)
      have h41 : S2.1 44 = .inl (0, 6, .inl (mj_z Kd)) := h41
      obtain ⟨Fz, h43⟩ := gb2.1 46 (by omega) (by omega)
      have h43 : S2.1 46 = .inl (0, 6, .inl (mj_z Fz)) := h43
      refine fo_atoms hw2 g1 q2 rfl q4 g5 m2 hmn h41 h43 (by omega) (by omega) (fun S3 z4 z5 q4 q5 f3 ha => ?_)
      obtain ⟨a1, a2, Fz3, a3, a4⟩ := ha
      obtain ⟨k0, hk⟩ := ktk_spec (c := c) (K := Kd)
      rw [k0] at a1 a4
      obtain ⟨Kd3, hKd3⟩ : ∃ Kd3, Kd3 = (tkA c 9 (0, Kd)).2 := ⟨_, rfl⟩
      rw [← hKd3] at a2 a4 hk
      obtain ⟨A, hA⟩ : ∃ A, A = tkS c 9 := ⟨_, rfl⟩
      have hV := tkV_eq c
      rw [← hA] at a1 a4 hk hs hV
      obtain ⟨Mn, k1, k2⟩ := hmn
      have hc9 := k2 9 (by omega)
      have hVr : 0 ≤ tkV c 9 ∧ tkV c 9 ≤ 24 := by
        have hv := mj_vs_sum (F := fun j => mj_VAL (ktk c j)) A 0
        have hv2 := mj_vs_r (F := fun j => mj_VAL (ktk c j)) A 0 (fun j _ _ => mj_VAL_r _)
        rw [Nat.zero_add, mj_sum] at hv
        rw [hV, hv]
        omega
      have k13 := f3.at k1 (by simp)
      have hw3 := f3.w.trans hw2
      have a10 : S3.1 40 = _ := a1
      have f13 : mj_fr S S3 [40, 44, 46, 54] := f2.tr f3 (by simp) (by simp)
      have gb3 : mo_gb S3 := by
        refine gb2.fr f3 (by simp) (fun o ho h1 h2 => ?_)
        simp only [List.mem_cons, List.not_mem_nil, or_false] at ho
        have : o = 44 ∨ o = 46 := by omega
        rcases this with rfl | rfl
        · exact ⟨_, a2⟩
        · exact ⟨_, a3⟩
      have hfr2 : (fread L C).2.2 = c := by rw [hfr]
      have hfr1 : (fread L C).1 = -1 := by rw [hfr]
      -- behind the search
      have tail : ∀ (S4 : mj_S) (rs4 : Int) (y4 y5 : Value), c1 y4 → c1 y5 → mj_fr S3 S4 [40, 45, 46, 47, 48, 49, 50] → mo_st S4 0 L fp n h acc.length A rs4 (mres A (c 9) (ktk c)).length sg → (∃ Fr, S4.1 48 = .inl (0, 7515, .inl (mj_z Fr)) ∧ frL Fr (mres A (c 9) (ktk c))) → mo_gb S4 → mj_Ok Γ d M_Mo_formula 0 0 376 [.ref 40, y1, z2, .int (iZ (tkV c 9)), y4, y5] [] S4 (mj_I Q) := by
        intro S4 rs4 y4 y5 q4 q5 f4 m4 ⟨Fr, r1, r2⟩ gb4
        have f14 : mj_fr S S4 [40, 44, 45, 46, 47, 48, 49, 50, 54] := f13.tr f4 (by simp) (by simp)
        refine fo_take (C := C) (KM := ktk c) (h := c 9) (f4.w.trans hw3) g1 q2 rfl q4 q5 hL m4 ⟨f14.at hl.1 (by simp), hl.2⟩ (f14.at h39 (by simp)) (f14.at h40 (by simp)) (f4.at a2 (by simp)) hk r1 r2 (f4.at k13 (by simp)) hc9.1 (by omega) gb4 (by omega) (mres_le _ _ _) (by omega) (fun hE S5 f5 st5 => ?_) (fun hE S5 f5 st5 => ?_)
        · rw [hQ]
          refine ⟨two _ (by simp) _ (f14.tr f5 (l := [40, 44, 45, 46, 47, 48, 49, 50, 54]) (by simp) (by simp)), Or.inr ⟨hfr1, Or.inl ?_⟩⟩
          rw [hfr2, ← hA]
          exact ⟨hE, rfl, bad S5 L _ _ _ (f14.tr f5 (by simp) (by simp)) (gb4.fr f5 (by simp) (by simp)) st5⟩
        · rw [hQ]
          refine ⟨f14.tr f5 (by simp) (by simp), Or.inr ⟨hfr1, Or.inr ?_⟩⟩
          rw [hfr2, ← hA]
          exact ⟨hE, rfl, st5⟩
      refine mj_iload_n d_Mo_formula_336 rfl ?_
      refine mj_aload_n d_Mo_formula_337 rfl ?_
      refine mj_get (ci := 9) (j := 23) d_Mo_formula_338 rfl w_Mo_55 (by decide) (by omega) (by assumption) rfl ?_
      refine mz_bipush d_Mo_formula_341 (by decide) ?_
      refine mz_iald (j := 9) d_Mo_formula_343 (by omega) (by assumption) (by omega) (by omega) ?_
      rw [hc9.1]
      refine mz_isub d_Mo_formula_344 ?_
      refine mz_ist4 d_Mo_formula_345 (by unfold mj_c1; simp only [List.all_cons, g1, q2, q4, q5]; rfl) ?_
      refine mj_aload_n d_Mo_formula_347 rfl ?_
      refine mz_iconst d_Mo_formula_348 ?_
      refine mz_put (ci := 9) (j := 15) d_Mo_formula_349 rfl w_Mo_120 (by decide) rfl (by omega) (by assumption) (Nat.le_of_ble_eq_true rfl) (mj_fit_int _) rfl (fun S_349 w_349 e_349 f_349 => ?_)
      have gb4 : mo_gb S_349 := gb3.fr f_349 (by simp) (by simp)
      have f34 : mj_fr S3 S_349 [40, 45, 46, 47, 48, 49, 50] := f_349.tr (mj_fr.rf _ []) (by simp) (by simp)
      obtain ⟨Fr4, h45⟩ := gb4.1 48 (by omega) (by omega)
      have h45 : S_349.1 48 = .inl (0, 7515, .inl (mj_z Fr4)) := h45
      have none : mres A (c 9) (ktk c) = [] → mj_Ok Γ d M_Mo_formula 0 0 376 [.ref 40, y1, z2, .int (iZ (tkV c 9)), .int (iZ (tkV c 9 - (c 9 : Nat))), z5] [] S_349 (mj_I Q) := by
        intro hm
        refine tail S_349 rs _ _ rfl q5 f34 ?_ ⟨Fr4, h45, ?_⟩ gb4
        · rw [hm]; exact e_349
        · rw [hm]; exact fun i hi => absurd hi (Nat.not_lt_zero i)
      have hmr : mres A (c 9) (ktk c) = if 0 ≤ tkV c 9 - (c 9 : Nat) ∧ (tkV c 9 - (c 9 : Nat)) % 2 = 0 then es A (A * (A - 1) / 2) (ktk c) (A * (A - 1) / 2) 0 ((tkV c 9 - (c 9 : Nat)) / 2) (fun _ => 0) (fun j => mj_VAL (ktk c j)) [] else [] := by
        unfold mres
        rw [← hV]
      refine mj_iload d_Mo_formula_352 rfl ?_
      refine mz_if_lt 376 d_Mo_formula_354 (by decide) (by omega) (fun c_354 => ?_) (fun c_354 => ?_)
      · exact none (by rw [hmr, if_neg (by omega)])
      · refine mj_iload d_Mo_formula_357 rfl ?_
        refine mz_iconst d_Mo_formula_359 ?_
        refine mz_irem d_Mo_formula_360 (by omega) (by omega) (by omega) (by omega) ?_
        refine mz_if_ne 376 d_Mo_formula_361 (by decide) (by omega) (fun c_361 => ?_) (fun c_361 => ?_)
        · exact none (by rw [hmr, if_neg (by omega)])
        · refine mj_aload_n d_Mo_formula_364 rfl ?_
          refine mj_iload d_Mo_formula_365 rfl ?_
          refine mz_iconst d_Mo_formula_367 ?_
          refine mz_idiv d_Mo_formula_368 (by omega) (by omega) (by omega) (by omega) ?_
          refine mz_put (ci := 9) (j := 13) d_Mo_formula_369 rfl w_Mo_123 (by decide) rfl (by omega) (by assumption) (Nat.le_of_ble_eq_true rfl) (mj_fit_int _) rfl (fun S_369 w_369 e_369 f_369 => ?_)
          have gb5 : mo_gb S_369 := gb4.fr f_369 (by simp) (by simp)
          obtain ⟨Cd, h42, h42'⟩ := gb5.2
          obtain ⟨Nx, h44⟩ := gb5.1 47 (by omega) (by omega)
          obtain ⟨Fr5, h455⟩ := gb5.1 48 (by omega) (by omega)
          obtain ⟨Nb, h46⟩ := gb5.1 49 (by omega) (by omega)
          obtain ⟨T, h47⟩ := gb5.1 50 (by omega) (by omega)
          have f35 : mj_fr S3 S_369 [40] := f_349.tr f_369 (by simp) (by simp)
          refine mj_aload_n d_Mo_formula_372 rfl ?_
          refine mz_callV0v (ci := 9) d_Mo_formula_373 (m_Mo_search (d := 4) (KM := ktk c) (F0 := fun j => mj_VAL (ktk c j)) (P := A * (A - 1) / 2) (f35.w.trans hw3) e_369 (f35.at a2 (by simp)) (fun j hj => by have := hk j hj; omega) h42 h42' (f35.at a3 (by simp)) (fun j hj => ⟨by rw [a4 j hj, (hk j hj).1, Int.toNat_natCast], by have := mj_VAL_r (ktk c j); omega⟩) h44 h455 h46 h47 (by omega) rfl (by omega) (by omega)) cw_Mo_search lk_Mo_126 rfl rfl (by omega) (by assumption) (by omega) rfl (fun S_373 h_373 => ?_)
          obtain ⟨lf, cd, F5, nx, x1, x2, ⟨Cd6, x3, -, x3'⟩, ⟨Fz6, x4, -⟩, x5, ⟨Nb6, x6⟩, ⟨T6, x7⟩, Nx6, x8, -⟩ := h_373
          refine tail S_373 lf _ _ rfl q5 (f35.tr x1 (by simp) (by simp)) ?_ ?_ ?_
          · rw [hmr, if_pos ⟨by omega, c_361⟩]; exact x2
          · rw [hmr, if_pos ⟨by omega, c_361⟩]; exact x5
          · obtain ⟨Fr6, x5, -⟩ := x5
            refine gb5.fr2 x1 (fun o ho h1 h2 => ?_) ⟨Cd6, x3, x3'⟩
            simp only [List.mem_cons, List.not_mem_nil, or_false] at ho
            have : o = 45 ∨ o = 46 ∨ o = 47 ∨ o = 48 ∨ o = 49 ∨ o = 50 := by omega
            rcases this with rfl | rfl | rfl | rfl | rfl | rfl
            · exact ⟨_, x3⟩
            · exact ⟨_, x4⟩
            · exact ⟨_, x8⟩
            · exact ⟨_, x5⟩
            · exact ⟨_, x6⟩
            · exact ⟨_, x7⟩
  have fill : ∀ (q j : Nat) (S2 : mj_S) (T : Nat → Int), j + q = 10 → mj_fr S S2 [40, 54] → mo_st S2 0 L fp n h acc.length tr rs fo sg → S2.1 54 = .inl (0, 10, .inl (mj_z T)) → (∀ i, i < j → T i = 0) → mj_Ok Γ d M_Mo_formula 0 0 7 [.ref 40, .int (iZ j), .retAddr 0, .retAddr 0, .retAddr 0, .retAddr 0] [] S2 (mj_I Q) := by
    intro q
    induction q with
    | zero =>
      intro j S2 T hj f2 m2 t2 hT
      have m20 : S2.1 40 = _ := m2
      have hw2 := f2.w.trans hw
      have hmn : mo_mn S2 (fun _ => 0) := ⟨T, t2, fun i hi => ⟨hT i (by omega), Nat.zero_le _⟩⟩
      refine mj_iload_n d_Mo_formula_7 rfl ?_
      refine mz_bipush d_Mo_formula_8 (by decide) ?_
      refine mz_icmp_ge 26 d_Mo_formula_10 (by decide) (by omega) (by omega) (fun c_10 => ?_) (fun c_10 => ?_)
      · refine mz_iconst d_Mo_formula_26 ?_
        refine mz_ist1 d_Mo_formula_27 (rfl) ?_
        by_cases hL0 : 0 < L
        · have hfr : fread L C = if (floop L C 60 0 (fun _ => 0)).1 = -1 then (if tkS (floop L C 60 0 (fun _ => 0)).2.2 9 < 1 ∨ 6 < tkS (floop L C 60 0 (fun _ => 0)).2.2 9 then -5 else -1, L, (floop L C 60 0 (fun _ => 0)).2.2) else floop L C 60 0 (fun _ => 0) := by
            unfold fread
            rw [if_neg (by omega)]
          have hl2 : mj_lc S2 C := ⟨f2.at hl.1 (by simp), hl.2⟩
          refine fo_read (S0 := S2) hw2 hl2 hL hL0 (by omega) 60 0 (fun _ => 0) S2 _ _ _ _ rfl rfl rfl rfl (by omega) (by omega) (mj_fr.rf _ _) m2 hmn (fun hne S3 c3 f3 m3 hm3 => ?_) (fun he S3 y1 y2 y3 y4 y5 q1 q2 q3 q4 q5 f3 m3 hm3 => ?_)
          · rw [hQ]
            rw [if_neg hne] at hfr
            have f4 : mj_fr S S3 [40, 54] := f2.tr f3 (by simp) (by simp)
            refine ⟨two _ (by simp) _ f4, Or.inl ⟨by rw [hfr]; exact hne, by rw [hfr], ?_⟩⟩
            rw [hfr]
            exact bad S3 _ _ _ _ (f4.tr (mj_fr.rf _ []) (by simp) (by simp)) (gb51 S3 c3 f4 hm3) m3
          · rw [if_pos he] at hfr
            exact rest _ S3 y1 y2 y3 y4 y5 q1 q2 q3 q4 q5 (f2.tr f3 (by simp) (by simp)) m3 hm3 hfr
        · have hL00 : L = 0 := by omega
          subst hL00
          have hfr : fread 0 C = (-2, 0, fun _ => 0) := by unfold fread; rw [if_pos rfl]
          have hl2 : mj_lc S2 C := ⟨f2.at hl.1 (by simp), hl.2⟩
          have hel : ln_el 0 C 0 = -1 := by
            rw [← mo_el_at]
            unfold mo_at
            rw [if_neg (by omega), if_neg (by omega)]
            decide
          refine mj_iload_n d_Mo_formula_28 rfl ?_
          refine mj_aload_n d_Mo_formula_29 rfl ?_
          refine mj_get (ci := 9) (j := 1) d_Mo_formula_30 rfl w_Mo_88 (by decide) (by omega) (by assumption) rfl ?_
          refine mz_icmp_lt 43 d_Mo_formula_33 (by decide) (by omega) (by omega) (fun c_33 => ?_) (fun c_33 => ?_)
          · omega
          · refine mj_aload_n d_Mo_formula_36 rfl ?_
            refine mj_get (ci := 9) (j := 1) d_Mo_formula_37 rfl w_Mo_88 (by decide) (by omega) (by assumption) rfl ?_
            refine mz_if_ne 192 d_Mo_formula_40 (by decide) (by omega) (fun c_40 => ?_) (fun c_40 => ?_)
            · omega
            · refine mj_aload_n d_Mo_formula_43 rfl ?_
              refine mj_iload_n d_Mo_formula_44 rfl ?_
              refine mz_callV1i (ci := 9) d_Mo_formula_45 (m_Mo_elementAt (d := 1) hw2 m2 hl2 (by omega) (by omega) (by omega)) cw_Mo_elementAt lk_Mo_99 rfl rfl (by omega) (by assumption) (by omega) rfl (fun z_45 S_45 h_45 => ?_)
              obtain ⟨e45, rfl⟩ := h_45
              rw [e45, hel]
              refine mz_ist2 d_Mo_formula_48 (rfl) ?_
              refine mj_iload_n d_Mo_formula_49 rfl ?_
              refine mz_if_ge 61 d_Mo_formula_50 (by decide) (by omega) (fun c_50 => ?_) (fun c_50 => ?_)
              · omega
              · refine mj_aload_n d_Mo_formula_53 rfl ?_
                refine mz_bipush d_Mo_formula_54 (by decide) ?_
                refine mj_iload_n d_Mo_formula_56 rfl ?_
                refine mz_callV2i (ci := 9) d_Mo_formula_57 (m_Mo_fault (d := 0) hw2 m2) cw_Mo_fault lk_Mo_103 rfl rfl (by omega) (by assumption) (by omega) rfl (fun z_57 S_57 h_57 => ?_)
                obtain ⟨q1, rfl, q3⟩ := h_57
                refine mz_iret d_Mo_formula_60 rfl (rfl) ?_
                rw [hQ]
                have f4 : mj_fr S S_57 [40, 54] := f2.tr q1 (by simp) (by simp)
                refine ⟨two _ (by simp) _ f4, Or.inl ⟨by rw [hfr]; simp, by rw [hfr], ?_⟩⟩
                rw [hfr]
                obtain ⟨T9, t91, t92⟩ := hmn
                exact bad S_57 _ _ _ _ (f4.tr (mj_fr.rf _ []) (by simp) (by simp)) (gb51 S_57 _ f4 ⟨T9, q1.at t91 (by simp), t92⟩) q3
      · omega
    | succ q ih =>
      intro j S2 T hj f2 m2 t2 hT
      have m20 : S2.1 40 = _ := m2
      have hw2 := f2.w.trans hw
      refine mj_iload_n d_Mo_formula_7 rfl ?_
      refine mz_bipush d_Mo_formula_8 (by decide) ?_
      refine mz_icmp_ge 26 d_Mo_formula_10 (by decide) (by omega) (by omega) (fun c_10 => ?_) (fun c_10 => ?_)
      · omega
      · refine mj_aload_n d_Mo_formula_13 rfl ?_
        refine mj_get (ci := 9) (j := 23) d_Mo_formula_14 rfl w_Mo_55 (by decide) (by omega) (by assumption) rfl ?_
        refine mj_iload_n d_Mo_formula_17 rfl ?_
        refine mz_iconst d_Mo_formula_18 ?_
        refine mz_iast d_Mo_formula_19 (by omega) (by assumption) (rfl) (by omega) (fun S_19 w_19 e_19 f_19 => ?_)
        refine mz_inc1 d_Mo_formula_20 (rfl) ?_
        refine mj_goto 7 d_Mo_formula_23 (by decide) ?_
        have w := ih (j + 1) S_19 _ (by omega) (f2.tr f_19 (by simp) (by simp)) (f_19.at m20 (by simp)) e_19 (fun i hi => by
          by_cases e : i = j
          · subst e; rw [va_up_self]
          · rw [va_up_ne _ _ e]; exact hT i (by omega))
        rw [show ((j + 1 : Nat) : Int) = (j : Int) + 1 by omega] at w
        exact w
  exact fill 10 0 S_2 Mn0 (by omega) (f_2.tr (mj_fr.rf _ []) (by simp) (by simp)) e_2 (f_2.at h51 (by simp)) (fun i hi => absurd hi (Nat.not_lt_zero i))
end MO8
