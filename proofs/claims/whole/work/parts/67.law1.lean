/-! the law: class and reference side by side -/
theorem mj_wk.hi {S S' : mj_S} {l : List Nat} (h : mj_wk S) (hf : mj_fr S S' l) (hl : ∀ j ∈ l, 39 < j) : mj_wk S' := h.fr hf (fun j hj => Or.inr (Or.inr (by have := hl j hj; omega)))
theorem mj_IL.hi {S S' : mj_S} {L : Nat} {C : Nat → Int} {fp : Int} {n h : Nat} {KM : Nat → Nat} {acc : List Nat} {l : List Nat} (hI : mj_IL S L C fp n h KM acc) (hf : mj_fr S S' l) (hl : ∀ j ∈ l, 39 < j) : mj_IL S' L C fp n h KM acc := by
  obtain ⟨cu, sp, ht, hw, ho, hln, hk, hc, ⟨K, D, n1, h1, z1, hs⟩, hb⟩ := hI
  have q : ∀ j, j ≤ 39 → j ∉ l := fun j j1 hj => by have := hl j hj; omega
  have ht0 := ht
  unfold mj_two at ht
  exact ⟨cu, sp, ht0, hf.w.trans hw, hf.at ho (q 0 (by omega)), ⟨hf.at hln.1 (q 1 (by omega)), hf.at hln.2.1 (q 2 (by omega)), hln.2.2⟩, hk.hi hf hl, hc.fr hf (fun j hj => by have := hl j hj; omega), ⟨K, D, n1, h1, z1, hs.fr hf (fun j hj => by have := hl j hj; omega)⟩, hb⟩
theorem mo_IL.lo {S S' : mj_S} {rf : Int} {L : Nat} {C : Nat → Int} {fp : Int} {n h : Nat} {KM : Nat → Nat} {acc : List Nat} {l : List Nat} (hI : mo_IL S rf L C fp n h KM acc) (hf : mj_fr S S' l) (hl : ∀ j ∈ l, j < 40 ∨ 63 < j) : mo_IL S' rf L C fp n h KM acc := by
  obtain ⟨hw, hL, ⟨tr, rs, fo, sg, hst⟩, hlc, ⟨El, h39, h39'⟩, ⟨Tl, h40, h40'⟩, hgb, hb⟩ := hI
  have q : ∀ j, 40 ≤ j → j ≤ 63 → j ∉ l := fun j j1 j2 hj => by have := hl j hj; omega
  exact ⟨hf.w.trans hw, hL, ⟨tr, rs, fo, sg, hf.at hst (q _ (by omega) (by omega))⟩, ⟨hf.at hlc.1 (q _ (by omega) (by omega)), hlc.2⟩, ⟨El, hf.at h39 (q _ (by omega) (by omega)), h39'⟩, ⟨Tl, hf.at h40 (q _ (by omega) (by omega)), h40'⟩, hgb.fr hf (q _ (by omega) (by omega)) (fun o ho o1 o2 => absurd ho (q o (by omega) o2)), hb⟩
theorem mo_IL.re {S S' : mj_S} {rf rf' : Int} {L L' : Nat} {C : Nat → Int} {fp : Int} {n h : Nat} {KM : Nat → Nat} {acc : List Nat} {tr rs fo sg : Int} (hI : mo_IL S rf L C fp n h KM acc) (hf : mj_fr S S' [40]) (hs : mo_st S' rf' L' fp n h acc.length tr rs fo sg) (hL' : L' ≤ 60) : mo_IL S' rf' L' C fp n h KM acc := by
  obtain ⟨hw, hL, -, hlc, ⟨El, h39, h39'⟩, ⟨Tl, h40, h40'⟩, hgb, hb⟩ := hI
  exact ⟨hf.w.trans hw, hL', ⟨_, _, _, _, hs⟩, ⟨hf.at hlc.1 (by simp), hlc.2⟩, ⟨El, hf.at h39 (by simp), h39'⟩, ⟨Tl, hf.at h40 (by simp), h40'⟩, hgb.fr hf (by simp) (by simp), hb⟩
theorem es_congr {A P : Nat} {KM KM' : Nat → Nat} (hA : 1 ≤ A ∧ A ≤ 6) (hP : P = A * (A - 1) / 2) (hK : ∀ j, j < A → KM j = KM' j) : ∀ (r p : Nat) (left : Int) (cd : Nat → Nat) (F F' : Nat → Int) (acc : List Nat), p + r = P → (∀ j, j < A → F j = F' j) → es A P KM r p left cd F acc = es A P KM' r p left cd F' acc := by
  obtain ⟨p15, pu, -, -⟩ := es_P hA hP
  intro r
  induction r with
  | zero => intro p left cd F F' acc _ _; rw [es, es]
  | succ r ih =>
    intro p left cd F F' acc hp hF
    have ua := pu p (by omega)
    have ul := (ul6 p (by omega)).1
    have hf : (fun (v : Nat) (acc : List Nat) => @ite _ (beat KM (va_up cd p v) p) (Classical.propDecidable _) acc (es A P KM r (p + 1) (left - v) (va_up cd p v) (mset F (up6 p) (lo6 p) v) acc)) = (fun (v : Nat) (acc : List Nat) => @ite _ (beat KM' (va_up cd p v) p) (Classical.propDecidable _) acc (es A P KM' r (p + 1) (left - v) (va_up cd p v) (mset F' (up6 p) (lo6 p) v) acc)) := by
      funext v acc
      have e1 := nbI_congr (m := up6 p + 1) (KM := KM) (KM' := KM') (B := mB (va_up cd p v)) (B' := mB (va_up cd p v)) (fun j hj => hK j (by omega)) (fun _ _ _ _ => rfl) (up6 p + 1) 0 (fun _ => 0) (fun _ => false) 0 (by omega) (fun j hj => absurd hj (Nat.not_lt_zero j))
      have e2 := ih (p + 1) (left - v) (va_up cd p v) (mset F (up6 p) (lo6 p) v) (mset F' (up6 p) (lo6 p) v) acc (by omega) (fun j hj => by rw [mset_at, mset_at, hF j hj, hF (up6 p) ua, hF (lo6 p) (by omega)])
      have e3 : beat KM (va_up cd p v) p ↔ beat KM' (va_up cd p v) p := by
        unfold beat
        rw [e1]
      by_cases c : beat KM (va_up cd p v) p
      · rw [if_pos c, if_pos (e3.mp c)]
      · rw [if_neg c, if_neg (fun z => c (e3.mpr z)), e2]
    rw [es, es, hf, hF (up6 p) ua, hF (lo6 p) (by omega)]
theorem mres_congr {n h : Nat} {KM KM' : Nat → Nat} (hn : 1 ≤ n ∧ n ≤ 6) (hK : ∀ j, j < n → KM j = KM' j) : mres n h KM = mres n h KM' := by
  unfold mres
  rw [mj_sum_congr (f := fun j => mj_VAL (KM j)) (g := fun j => mj_VAL (KM' j)) n (fun y hy => by show mj_VAL (KM y) = mj_VAL (KM' y); rw [hK y hy])]
  split
  · exact es_congr hn rfl hK _ 0 _ _ _ _ _ (by omega) (fun j hj => by show mj_VAL (KM j) = mj_VAL (KM' j); rw [hK j hj])
  · rfl
theorem mo_IL.kc {S : mj_S} {rf : Int} {L : Nat} {C : Nat → Int} {fp : Int} {n h : Nat} {KM KM' : Nat → Nat} {acc : List Nat} (hI : mo_IL S rf L C fp n h KM acc) (hK : ∀ j, j < n → KM j = KM' j) : mo_IL S rf L C fp n h KM' acc := by
  obtain ⟨hw, hL, hst, hlc, ⟨El, h39, h39'⟩, hb⟩ := hI
  exact ⟨hw, hL, hst, hlc, ⟨El, h39, fun j hj => by have := h39' j hj; rw [← hK j hj]; exact this⟩, hb⟩
/-- class and reference stand alike; the row for the class's answers -/
def JS (S : mj_S) (rf : Int) (L : Nat) (C : Nat → Int) (fp : Int) (n h : Nat) (KM : Nat → Nat) (acc : List Nat) (f : Nat → Int64) : Prop :=
  mj_IL S L C fp n h KM acc ∧ mo_IL S rf L C fp n h KM acc ∧ S.1 64 = .inl (3, 1, .inr (.inl f)) ∧ ((n = 0 ∧ acc = []) ∨ (1 ≤ n ∧ acc = mres n h KM))
theorem JS.ck {S : mj_S} {rf : Int} {L : Nat} {C : Nat → Int} {fp : Int} {n h : Nat} {KM : Nat → Nat} {acc : List Nat} {f : Nat → Int64} (hJ : JS S rf L C fp n h KM acc f) : ∀ i, i < acc.length → cOK n (n * (n - 1) / 2) KM (fun j => mj_VAL (KM j)) (acc.getD i 0) := by
  intro i hi
  obtain ⟨-, hM, -, hc⟩ := hJ
  have hn6 : n ≤ 6 := hM.2.2.2.2.2.2.2.1
  rcases hc with ⟨-, e⟩ | ⟨h1, e⟩
  · rw [e] at hi; exact absurd hi (Nat.not_lt_zero i)
  · have hm := mres_mem (h := h) (KM := KM) ⟨h1, hn6⟩
    rw [← e] at hm
    refine hm _ ?_
    rw [List.getD_eq_getElem?_getD, List.getElem?_eq_getElem hi]
    exact List.getElem_mem hi
theorem JS.n1 {S : mj_S} {rf : Int} {L : Nat} {C : Nat → Int} {fp : Int} {n h : Nat} {KM : Nat → Nat} {acc : List Nat} {f : Nat → Int64} (hJ : JS S rf L C fp n h KM acc f) : acc.length = 0 ∨ 1 ≤ n := by
  rcases hJ.2.2.2 with ⟨-, e⟩ | ⟨h1, -⟩
  · rw [e]; exact Or.inl rfl
  · exact Or.inr h1
theorem JS.lt {S : mj_S} {rf : Int} {L : Nat} {C : Nat → Int} {fp : Int} {n h : Nat} {KM : Nat → Nat} {acc : List Nat} {f : Nat → Int64} (hJ : JS S rf L C fp n h KM acc f) : ∀ j, j < acc.length → acc.getD j 0 < 2 ^ 30 := fun j hj => cOK_lt hJ.2.1.2.2.2.2.2.2.2.1 (hJ.ck j hj)
theorem lo_lt : ∀ j ∈ mj_lo, j < 40 ∨ 63 < j := fun j hj => Or.inl (List.mem_range.mp hj)
theorem lo_61 : 64 ∉ mj_lo := fun h => by have := List.mem_range.mp h; omega
section LW1
variable {Γ : mj_G} {d i k0 n0 Ln : Nat} {S : mj_S} {XS C : Nat → Int} {rf fp : Int} {L n h : Nat} {KM : Nat → Nat} {acc : List Nat} {f : Nat → Int64} {P : mj_O → mj_S → Prop} {x5 x6 : Value}
/-- the law goes on behind a call -/
def LN (Γ : mj_G) (d k0 n0 i : Nat) (P : mj_O → mj_S → Prop) : Prop := ∀ (S' : mj_S) (rf : Int) (L : Nat) (C : Nat → Int) (fp : Int) (n h : Nat) (KM : Nat → Nat) (acc : List Nat) (f : Nat → Int64) (y5 y6 : Value), c1 y5 → c1 y6 → JS S' rf L C fp n h KM acc f → mj_Ok Γ d M_Lw_law k0 n0 576 [.ref (mj_st + 3), .ref 0, .ref 40, .ref 64, .int (iZ i), y5, y6] [] S' P
theorem law_erase (hJ : JS S rf L C fp n h KM acc f) (g5 : c1 x5) (g6 : c1 x6) (hd : 300 ≤ d) (nx : LN Γ d k0 n0 i P) : mj_Ok Γ d M_Lw_law k0 n0 158 [.ref (mj_st + 3), .ref 0, .ref 40, .ref 64, .int (iZ i), x5, x6] [] S P := by
  obtain ⟨hI, hM, h61, hc⟩ := hJ
  obtain ⟨cu, sp, -, hw, ho, -⟩ := id hI
  have ho : S.1 0 = _ := ho
  refine mj_aload_n d_Lw_law_158 rfl ?_
  refine mz_callV0i (ci := 0) d_Lw_law_159 (m_IL_erase (d := 1) hI (by omega)) cw_IL_erase lk_Lw_49 rfl rfl (by omega) (by assumption) (by omega) rfl (fun z_159 S_159 h_159 => ?_)
  obtain ⟨f1, rfl, hI1⟩ := h_159
  have hM1 := hM.lo f1 lo_lt
  have hL := hM1.2.1
  obtain ⟨hw1, -, ⟨tr, rs, fo, sg, hst⟩, -⟩ := id hM1
  have hst0 : S_159.1 40 = _ := hst
  refine mj_aload_n d_Lw_law_162 rfl ?_
  refine mz_callV0i (ci := 9) d_Lw_law_163 (m_Mo_erase (d := 0) hw1 hst) cw_Mo_erase lk_Lw_52 rfl rfl (by omega) (by assumption) (by omega) rfl (fun z_163 S_163 h_163 => ?_)
  obtain ⟨f2, rfl, hst2⟩ := h_163
  refine mz_icmp_eq 576 d_Lw_law_166 (by decide) (by omega) (by omega) (fun c_166 => ?_) (fun c_166 => ?_)
  · exact nx S_163 0 0 C fp n h KM acc f _ _ g5 g6 ⟨hI1.hi f2 (by simp), hM1.re (L' := 0) f2 hst2 (by omega), f2.at (f1.at h61 lo_61) (by simp), hc⟩
  · exact absurd rfl c_166
theorem law_place (hJ : JS S rf L C fp n h KM acc f) (g5 : c1 x5) (g6 : c1 x6) (hd : 300 ≤ d) (nx : LN Γ d k0 n0 i P) : mj_Ok Γ d M_Lw_law k0 n0 197 [.ref (mj_st + 3), .ref 0, .ref 40, .ref 64, .int (iZ i), x5, x6] [] S P := by
  obtain ⟨hI, hM, h61, hc⟩ := hJ
  obtain ⟨cu, sp, -, hw, ho, -⟩ := id hI
  have ho : S.1 0 = _ := ho
  obtain ⟨-, hL, ⟨tr, rs, fo, sg, hst⟩, -⟩ := id hM
  have hst0 : S.1 40 = _ := hst
  refine mj_aload_n d_Lw_law_197 rfl ?_
  refine mz_callV0i (ci := 0) d_Lw_law_198 (m_IL_place (d := 0) hI) cw_IL_place lk_Lw_61 rfl rfl (by omega) (by assumption) (by omega) rfl (fun z_198 S_198 h_198 => ?_)
  obtain ⟨e198, rfl⟩ := h_198
  rw [e198]
  refine mj_aload_n d_Lw_law_201 rfl ?_
  refine mz_callV0i (ci := 9) d_Lw_law_202 (m_Mo_place (d := 0) hw hst) cw_Mo_place lk_Lw_64 rfl rfl (by omega) (by assumption) (by omega) rfl (fun z_202 S_202 h_202 => ?_)
  obtain ⟨f2, rfl, hst2⟩ := h_202
  refine mj_icmp_eq 576 d_Lw_law_205 (by decide) (fun c_205 => ?_) (fun c_205 => ?_)
  · exact nx S_202 0 L C z_202 n h KM acc f _ _ g5 g6 ⟨hI.hi f2 (by simp), hM.re f2 hst2 hL, f2.at h61 (by simp), hc⟩
  · exact absurd rfl c_205
theorem law_count (hJ : JS S rf L C fp n h KM acc f) (g5 : c1 x5) (g6 : c1 x6) (hR : Γ.ro 3 = (Ln, .inl (mj_z XS))) (hXS : ∀ j, iR (XS j)) (hLn : Ln ≤ 2048) (hi : i + 4 ≤ Ln) (hd : 300 ≤ d) (nx : LN Γ d k0 n0 i P) : mj_Ok Γ d M_Lw_law k0 n0 210 [.ref (mj_st + 3), .ref 0, .ref 40, .ref 64, .int (iZ i), x5, x6] [] S P := by
  obtain ⟨hI, hM, h61, hc⟩ := hJ
  obtain ⟨cu, sp, -, hw, ho, -⟩ := id hI
  have ho : S.1 0 = _ := ho
  obtain ⟨-, hL, ⟨tr, rs, fo, sg, hst⟩, -, -, -, -, hn6, hh, hal⟩ := id hM
  have hst0 : S.1 40 = _ := hst
  have hx := hXS (i + 1)
  refine mj_aload_n d_Lw_law_210 rfl ?_
  refine mj_aload_n d_Lw_law_211 rfl ?_
  refine mj_iload d_Lw_law_212 rfl ?_
  refine mz_iconst d_Lw_law_214 ?_
  refine mz_iadd d_Lw_law_215 ?_
  refine mz_irot (j := i + 1) d_Lw_law_216 (by decide) rfl (hR) (by omega) (by omega) ?_ (by omega)
  refine mz_callV1i (ci := 0) d_Lw_law_217 (m_IL_count (d := 0) hI hx) cw_IL_count lk_Lw_65 rfl rfl (by omega) (by assumption) (by omega) rfl (fun z_217 S_217 h_217 => ?_)
  obtain ⟨e217, rfl⟩ := h_217
  rw [e217]
  refine mj_aload_n d_Lw_law_220 rfl ?_
  refine mj_aload_n d_Lw_law_221 rfl ?_
  refine mj_iload d_Lw_law_222 rfl ?_
  refine mz_iconst d_Lw_law_224 ?_
  refine mz_iadd d_Lw_law_225 ?_
  refine mz_irot (j := i + 1) d_Lw_law_226 (by decide) rfl (hR) (by omega) (by omega) ?_ (by omega)
  refine mz_callV1i (ci := 9) d_Lw_law_227 (m_Mo_count (d := 0) hw hst hx) cw_Mo_count lk_Lw_68 rfl rfl (by omega) (by assumption) (by omega) rfl (fun z_227 S_227 h_227 => ?_)
  obtain ⟨f2, rfl, hst2⟩ := h_227
  have zr : iR (if XS (i + 1) = 0 then (acc.length : Int) else if XS (i + 1) = 1 then (n : Int) else if XS (i + 1) = 2 then (h : Int) else -1) := by
    split
    · constructor <;> omega
    · split
      · constructor <;> omega
      · split
        · constructor <;> omega
        · decide
  refine mz_icmp_eq 576 d_Lw_law_230 (by decide) (zr) (zr) (fun c_230 => ?_) (fun c_230 => ?_)
  · exact nx S_227 0 L C fp n h KM acc f _ _ g5 g6 ⟨hI.hi f2 (by simp), hM.re f2 hst2 hL, f2.at h61 (by simp), hc⟩
  · exact absurd rfl c_230
theorem law_char (hJ : JS S rf L C fp n h KM acc f) (g5 : c1 x5) (g6 : c1 x6) (hR : Γ.ro 3 = (Ln, .inl (mj_z XS))) (hXS : ∀ j, iR (XS j)) (hLn : Ln ≤ 2048) (hi : i + 4 ≤ Ln) (hd : 300 ≤ d) (nx : LN Γ d k0 n0 i P) : mj_Ok Γ d M_Lw_law k0 n0 551 [.ref (mj_st + 3), .ref 0, .ref 40, .ref 64, .int (iZ i), x5, x6] [] S P := by
  obtain ⟨hI, hM, h61, hc⟩ := hJ
  obtain ⟨cu, sp, -, hw, ho, -⟩ := id hI
  have ho : S.1 0 = _ := ho
  obtain ⟨-, hL, ⟨tr, rs, fo, sg, hst⟩, hlc, -⟩ := id hM
  have hst0 : S.1 40 = _ := hst
  have hx := hXS (i + 1)
  refine mj_aload_n d_Lw_law_551 rfl ?_
  refine mj_aload_n d_Lw_law_552 rfl ?_
  refine mj_iload d_Lw_law_553 rfl ?_
  refine mz_iconst d_Lw_law_555 ?_
  refine mz_iadd d_Lw_law_556 ?_
  refine mz_irot (j := i + 1) d_Lw_law_557 (by decide) rfl (hR) (by omega) (by omega) ?_ (by omega)
  refine mz_callV1i (ci := 0) d_Lw_law_558 (m_IL_character (d := 1) hI hx (by omega)) cw_IL_character lk_Lw_87 rfl rfl (by omega) (by assumption) (by omega) rfl (fun z_558 S_558 h_558 => ?_)
  obtain ⟨e558, rfl⟩ := h_558
  rw [e558]
  refine mj_aload_n d_Lw_law_561 rfl ?_
  refine mj_aload_n d_Lw_law_562 rfl ?_
  refine mj_iload d_Lw_law_563 rfl ?_
  refine mz_iconst d_Lw_law_565 ?_
  refine mz_iadd d_Lw_law_566 ?_
  refine mz_irot (j := i + 1) d_Lw_law_567 (by decide) rfl (hR) (by omega) (by omega) ?_ (by omega)
  refine mz_callV1i (ci := 9) d_Lw_law_568 (m_Mo_character (d := 0) hw hst hlc hL hx) cw_Mo_character lk_Lw_91 rfl rfl (by omega) (by assumption) (by omega) rfl (fun z_568 S_568 h_568 => ?_)
  obtain ⟨f2, rfl, hst2⟩ := h_568
  have zr : iR (ln_at L C (XS (i + 1))) := by
    unfold ln_at
    split
    · have := hlc.2 (XS (i + 1)).toNat; constructor <;> omega
    · decide
  refine mz_icmp_eq 576 d_Lw_law_571 (by decide) (zr) (zr) (fun c_571 => ?_) (fun c_571 => ?_)
  · exact nx S_568 0 L C fp n h KM acc f _ _ g5 g6 ⟨hI.hi f2 (by simp), hM.re f2 hst2 hL, f2.at h61 (by simp), hc⟩
  · exact absurd rfl c_571
theorem law_formula (hT : mj_tab Γ) (hJ : JS S rf L C fp n h KM acc f) (g5 : c1 x5) (g6 : c1 x6) (hd : 300 ≤ d) (nx : LN Γ d k0 n0 i P) : mj_Ok Γ d M_Lw_law k0 n0 171 [.ref (mj_st + 3), .ref 0, .ref 40, .ref 64, .int (iZ i), x5, x6] [] S P := by
  obtain ⟨hI, hM, h61, hc⟩ := hJ
  obtain ⟨cu, sp, -, hw, ho, -⟩ := id hI
  have ho : S.1 0 = _ := ho
  have hL := hM.2.1
  have hal : acc.length ≤ 500 := hM.2.2.2.2.2.2.2.2.2
  have fo := fread_ok (n := L) (C := C) hL
  refine mj_aload_n d_Lw_law_171 rfl ?_
  refine mz_callV0i (ci := 0) d_Lw_law_172 (m_IL_formula (d := 202) hT hI (by omega)) cw_IL_formula lk_Lw_53 rfl rfl (by omega) (by assumption) (by omega) rfl (fun z_172 S_172 h_172 => ?_)
  obtain ⟨f1, hp⟩ := h_172
  have hM1 := hM.lo f1 lo_lt
  have hw1 := hM1.1
  obtain ⟨-, -, ⟨tr, rs, fo1, sg, hst⟩, -⟩ := id hM1
  have hst0 : S_172.1 40 = _ := hst
  refine mj_aload_n d_Lw_law_175 rfl ?_
  refine mz_callV0i (ci := 9) d_Lw_law_176 (m_Mo_formula (d := 5) hM1 (by omega)) cw_Mo_formula lk_Lw_56 rfl rfl (by omega) (by assumption) (by omega) rfl (fun z_176 S_176 h_176 => ?_)
  obtain ⟨f2, hq⟩ := h_176
  have l2 : ∀ j ∈ [40, 42, 43, 44, 45, 46, 47, 48, 49, 50, 54], 39 < j := by simp
  have h612 : S_176.1 64 = .inl (3, 1, .inr (.inl f)) := f2.at (f1.at h61 lo_61) (by simp)
  have go : z_172 = z_176 → iR z_172 → (∃ rf L C fp n h KM acc, JS S_176 rf L C fp n h KM acc f) → mj_Ok Γ d M_Lw_law k0 n0 179 [.ref (mj_st + 3), .ref 0, .ref 40, .ref 64, .int (iZ i), x5, x6] [.int (iZ z_176), .int (iZ z_172)] S_176 P := by
    intro hz hzr ⟨rf2, L2, C2, fp2, n2, h2, KM2, acc2, hJ2⟩
    subst hz
    refine mz_icmp_eq 576 d_Lw_law_179 (by decide) (hzr) (hzr) (fun c_179 => ?_) (fun c_179 => ?_)
    · exact nx S_176 rf2 L2 C2 fp2 n2 h2 KM2 acc2 f _ _ g5 g6 hJ2
    · exact absurd rfl c_179
  rcases hp with ⟨p1, p2, p3⟩ | ⟨p1, p2⟩
  · rcases hq with ⟨q1, q2, q3⟩ | ⟨q1, _⟩
    · exact go (by rw [p2, q2]) (by rw [p2]; constructor <;> omega) ⟨0, L, C, _, n, h, KM, acc, p3.hi f2 l2, q3, h612, hc⟩
    · exact absurd q1 p1
  · have hn2 := fo.2.1 p1
    rcases hq with ⟨q1, _⟩ | ⟨_, q2⟩
    · exact absurd p1 q1
    · rcases p2 with ⟨⟨s1, s2, s3⟩, s4, s5⟩ | ⟨E, e1, e2⟩
      · -- the same formula again
        have hn1 : 1 ≤ n := by omega
        have hacc : acc = mres n h KM := by
          rcases hc with ⟨z, _⟩ | ⟨_, z⟩
          · omega
          · exact z
        have hmc : mres (tkS (fread L C).2.2 9) ((fread L C).2.2 9) (ktk (fread L C).2.2) = acc := by
          rw [s1, s2, hacc]
          exact mres_congr ⟨hn1, by omega⟩ (fun j hj => s3 j (by omega))
        rw [hmc, s1, s2] at q2
        rcases q2 with ⟨z, _⟩ | ⟨_, z1, z2⟩
        · omega
        · exact go (by rw [s4, z1]) (by rw [s4]; constructor <;> omega) ⟨0, L, C, -1, n, h, KM, acc, s5.hi f2 l2, z2.kc (fun j hj => s3 j (by omega)), h612, Or.inr ⟨hn1, hacc⟩⟩
      · have hE := lst_eq hn2.2 e1
        rw [← hE] at q2
        rcases e2 with ⟨a1, a2, a3⟩ | ⟨a1, a2, a3⟩
        · rcases q2 with ⟨_, b2, b3⟩ | ⟨b1, _⟩
          · exact go (by rw [a2, b2]) (by rw [a2]; decide) ⟨0, L, C, _, n, h, KM, acc, a3.hi f2 l2, b3, h612, hc⟩
          · omega
        · rcases q2 with ⟨b1, _⟩ | ⟨_, b2, b3⟩
          · omega
          · exact go (by rw [a2, b2]) (by rw [a2]; constructor <;> omega) ⟨0, L, C, -1, _, _, _, E, a3.hi f2 l2, b3, h612, Or.inr ⟨hn2.2.1, hE⟩⟩
theorem law_read (hT : mj_tab Γ) (hJ : JS S rf L C fp n h KM acc f) (g5 : c1 x5) (g6 : c1 x6) (hd : 300 ≤ d) (nx : LN Γ d k0 n0 i P) : mj_Ok Γ d M_Lw_law k0 n0 184 [.ref (mj_st + 3), .ref 0, .ref 40, .ref 64, .int (iZ i), x5, x6] [] S P := by
  have hlt := hJ.lt
  have hck := hJ.ck
  obtain ⟨hI, hM, h61, hc⟩ := hJ
  obtain ⟨cu, sp, -, hw, ho, -⟩ := id hI
  have ho : S.1 0 = _ := ho
  have hal : acc.length ≤ 500 := hM.2.2.2.2.2.2.2.2.2
  have ePr : pr n 0 = n * (n - 1) / 2 := by unfold pr; omega
  refine mj_aload_n d_Lw_law_184 rfl ?_
  refine mz_callV0i (ci := 0) d_Lw_law_185 (m_IL_read (d := 10) hT hI hlt (by omega)) cw_IL_read lk_Lw_57 rfl rfl (by omega) (by assumption) (by omega) rfl (fun z_185 S_185 h_185 => ?_)
  obtain ⟨f1, n0', K0, F0, B0, RA0, RB0, BA0, rm0, hp⟩ := h_185
  have hM1 := hM.lo f1 lo_lt
  have hw1 := hM1.1
  obtain ⟨-, -, ⟨tr, rs, fo1, sg, hst⟩, -⟩ := id hM1
  have hst0 : S_185.1 40 = _ := hst
  have rr := tRead_r (L := L) (C := C) (t0 := mj_tr0 n0' K0 F0 B0 RA0 RB0 BA0 rm0) tPart_r (tAtom_r 0)
  refine mj_aload_n d_Lw_law_188 rfl ?_
  refine mz_callV0i (ci := 9) d_Lw_law_189 (m_Mo_read (d := 4) (n0 := n0') (K0 := K0) (F0 := F0) (B0 := B0) (RA0 := RA0) (RB0 := RB0) (BA0 := BA0) (rm0 := rm0) hM1 (fun j hj => by obtain ⟨cd, q1, q2, -⟩ := hck j hj; exact ⟨cd, by rw [ePr]; exact q1, by rw [ePr]; exact q2⟩) (by omega)) cw_Mo_read lk_Lw_60 rfl rfl (by omega) (by assumption) (by omega) rfl (fun z_189 S_189 h_189 => ?_)
  obtain ⟨f2, hq⟩ := h_189
  have l2 : ∀ j ∈ [40, 49, 50, 51, 52, 53, 55, 56, 57], 39 < j := by simp
  have h612 : S_189.1 64 = .inl (3, 1, .inr (.inl f)) := f2.at (f1.at h61 lo_61) (by simp)
  have go : z_185 = z_189 → iR z_185 → (∃ fp, JS S_189 0 L C fp n h KM acc f) → mj_Ok Γ d M_Lw_law k0 n0 192 [.ref (mj_st + 3), .ref 0, .ref 40, .ref 64, .int (iZ i), x5, x6] [.int (iZ z_189), .int (iZ z_185)] S_189 P := by
    intro hz hzr ⟨fp2, hJ2⟩
    subst hz
    refine mz_icmp_eq 576 d_Lw_law_192 (by decide) (hzr) (hzr) (fun c_192 => ?_) (fun c_192 => ?_)
    · exact nx S_189 0 L C fp2 n h KM acc f _ _ g5 g6 hJ2
    · exact absurd rfl c_192
  rcases hp with ⟨p1, p2, p3⟩ | ⟨p1, p2, KM2, BN, p3, p4, p5⟩
  · rcases hq with ⟨q1, q2, q3⟩ | ⟨q1, _⟩
    · exact go (by rw [p2, q2]) (by rw [p2]; constructor <;> omega) ⟨_, p3.hi f2 l2, q3, h612, hc⟩
    · exact absurd q1 p1
  · rcases hq with ⟨q1, _⟩ | ⟨_, q2, q3⟩
    · exact absurd p1 q1
    · have hz := mj_inP_eq p5 (q3 KM2 BN p3 p4)
      refine go hz ?_ ⟨-1, p2.hi f2 l2, q2, h612, hc⟩
      rcases p5 with ⟨_, z⟩ | ⟨_, ⟨j, z, z1, _⟩ | ⟨z, _⟩⟩
      · rw [z]; decide
      · rw [z]; constructor <;> omega
      · rw [z]; decide
end LW1
