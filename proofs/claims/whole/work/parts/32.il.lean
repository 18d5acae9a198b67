/-! the class itself: its state; the methods that throw nothing -/
/-- both numberings: the object's own and the lister's -/
def mj_nn (S : mj_S) : Prop := mj_nuS S ∧ mj_nvS S
theorem mj_nn.fr {S S' : mj_S} {l : List Nat} (h : mj_nn S) (hf : mj_fr S S' l) (h1 : 17 ∉ l ∧ 24 ∉ l) (h2 : 18 ∉ l ∧ 25 ∉ l) (h3 : 19 ∉ l ∧ 26 ∉ l) : mj_nn S' := ⟨h.1.fr hf h1.1 h2.1 h3.1, h.2.fr hf h1.2 h2.2 h3.2⟩
/-- the working parts: what lies in them matters to nobody between calls -/
def mj_wk (S : mj_S) : Prop :=
  (∃ (a : Nat) (A : Nat → Int), mj_fr3 S a A) ∧ (∃ t : TS, mj_tr S t) ∧
  (∃ (r : Nat) (CF RS RE : Nat → Int), S.1 13 = .inr (5, [.ref 14, .ref 15, .ref 16, .int (iZ r)]) ∧ S.1 14 = .inl (0, 6, .inl (mj_z CF)) ∧ S.1 15 = .inl (0, 10, .inl (mj_z RS)) ∧ S.1 16 = .inl (0, 10, .inl (mj_z RE))) ∧
  mj_nn S ∧ (∃ (V GA : Nat → Int), S.1 20 = .inr (7, [.ref 21, .ref 24, .ref 27, .ref 31, .ref 32]) ∧ S.1 31 = .inl (0, 7, .inl (mj_z V)) ∧ S.1 32 = .inl (0, 6, .inl (mj_z GA))) ∧
  (∃ (o : Nat) (K F B : Nat → Int), mj_ml S 27 o K F B) ∧ ∃ (o : Nat) (K F B : Nat → Int), mj_ml S 33 o K F B
theorem mj_fr3.fr {S S' : mj_S} {a : Nat} {A : Nat → Int} {l : List Nat} (h : mj_fr3 S a A) (hf : mj_fr S S' l) (h1 : 3 ∉ l) (h2 : 4 ∉ l) : mj_fr3 S' a A := ⟨hf.at h.1 h1, hf.at h.2 h2⟩
theorem mj_tr.fr {S S' : mj_S} {t : TS} {l : List Nat} (h : mj_tr S t) (hf : mj_fr S S' l) (hl : ∀ j ∈ l, j < 5 ∨ 12 < j) : mj_tr S' t := by
  obtain ⟨n, K, F, B, RA, RB, BA, br, la, rm, at_⟩ := t
  obtain ⟨h1, h2, h3, h4, h5⟩ := h
  have q : ∀ j, 5 ≤ j → j ≤ 12 → j ∉ l := fun j j1 j2 hj => by have := hl j hj; omega
  exact ⟨hf.at h1 (q _ (by omega) (by omega)), h2.fr hf (fun j hj => by have := hl j hj; omega), hf.at h3 (q _ (by omega) (by omega)), hf.at h4 (q _ (by omega) (by omega)), hf.at h5 (q _ (by omega) (by omega))⟩
theorem mj_wk.fr {S S' : mj_S} {l : List Nat} (h : mj_wk S) (hf : mj_fr S S' l) (hl : ∀ j ∈ l, j < 3 ∨ (20 < j ∧ j < 24) ∨ 36 < j) : mj_wk S' := by
  obtain ⟨⟨a, A, h1⟩, ⟨t, h2⟩, ⟨r, CF, RS, RE, h3, h4, h5, h6⟩, h7, ⟨V, GA, h8, h9, h10⟩, ⟨o, K, F, B, h11⟩, ⟨o2, K2, F2, B2, h12⟩⟩ := h
  have q : ∀ j, (3 ≤ j ∧ j < 21 ∨ 23 < j ∧ j < 37) → j ∉ l := fun j j1 hj => by have := hl j hj; omega
  exact ⟨⟨a, A, h1.fr hf (q _ (by omega)) (q _ (by omega))⟩, ⟨t, h2.fr hf (fun j hj => by have := hl j hj; omega)⟩,
    ⟨r, CF, RS, RE, hf.at h3 (q _ (by omega)), hf.at h4 (q _ (by omega)), hf.at h5 (q _ (by omega)), hf.at h6 (q _ (by omega))⟩,
    h7.fr hf ⟨q _ (by omega), q _ (by omega)⟩ ⟨q _ (by omega), q _ (by omega)⟩ ⟨q _ (by omega), q _ (by omega)⟩,
    ⟨V, GA, hf.at h8 (q _ (by omega)), hf.at h9 (q _ (by omega)), hf.at h10 (q _ (by omega))⟩,
    ⟨o, K, F, B, h11.fr hf (fun j hj => by have := hl j hj; omega)⟩, ⟨o2, K2, F2, B2, h12.fr hf (fun j hj => by have := hl j hj; omega)⟩⟩
/-- a catalogue that holds a formula and the codes of its structures -/
def mj_cc (S : mj_S) (cu n h : Nat) (KM : Nat → Nat) (acc : List Nat) : Prop := ∃ KC D : Nat → Int, mj_ca S cu KC D n h acc.length ∧ (∀ j, j < n → KC j = KM j ∧ KM j < 9) ∧ mj_caL D acc
theorem mj_cc.fr {S S' : mj_S} {cu n h : Nat} {KM : Nat → Nat} {acc : List Nat} {l : List Nat} (hc : mj_cc S cu n h KM acc) (hf : mj_fr S S' l) (hl : ∀ j ∈ l, j < cu ∨ cu + 2 < j) : mj_cc S' cu n h KM acc := by
  obtain ⟨KC, D, h1, h2, h3⟩ := hc
  exact ⟨KC, D, h1.fr hf hl, h2, h3⟩
def mj_sp (S : mj_S) (sp : Nat) : Prop := ∃ (K D : Nat → Int) (n h z : Nat), mj_ca S sp K D n h z
def mj_ob (S : mj_S) (cu _sp : Nat) (fp : Int) : Prop := S.1 0 = .inr (0, [.ref 1, .ref 3, .ref 5, .ref 13, .ref 17, .ref 20, .ref 33, .ref cu, .int (iZ fp)])
def mj_two (cu sp : Nat) : Prop := cu = 37 ∧ sp = 21
/-- an object of the class: its line, the place of the last fault, its formula and its list -/
def mj_IL (S : mj_S) (L : Nat) (C : Nat → Int) (fp : Int) (n h : Nat) (KM : Nat → Nat) (acc : List Nat) : Prop :=
  ∃ cu sp : Nat, mj_two cu sp ∧ S.2.1 = 65 ∧ mj_ob S cu sp fp ∧ mj_ln S L C ∧ mj_wk S ∧ mj_cc S cu n h KM acc ∧ mj_sp S sp ∧ n ≤ 6 ∧ h ≤ 1000 ∧ acc.length ≤ 500
abbrev mj_lo : List Nat := List.range 40
section IL
variable {Γ : mj_G} {d L n h : Nat} {S : mj_S} {C : Nat → Int} {fp : Int} {KM : Nat → Nat} {acc : List Nat}
theorem m_IL_erase (hI : mj_IL S L C fp n h KM acc) (hd : 1 ≤ d) : mj_Met Γ d y_IL_erase M_IL_erase [.ref 0] S 0 0 (mj_I fun z S' => mj_fr S S' mj_lo ∧ z = L ∧ mj_IL S' 0 C fp n h KM acc) := by
  obtain ⟨cu, sp, ht, hw, ho, hl, hk, hc, hs, hb⟩ := hI
  have ho0 : S.1 0 = _ := ho
  have l1 := hl.1
  refine mj_Met.of (by decide) ⟨rfl, rfl⟩ rfl rfl rfl ?_
  refine mj_aload_n d_IL_erase_0 rfl ?_
  refine mj_get (ci := 0) (j := 0) d_IL_erase_1 rfl w_IL_10 (by decide) (by omega) (by assumption) rfl ?_
  refine mj_get (ci := 1) (j := 1) d_IL_erase_4 rfl w_IL_69 (by decide) (by omega) (by assumption) rfl ?_
  refine mz_ist1 d_IL_erase_7 (rfl) ?_
  refine mj_aload_n d_IL_erase_8 rfl ?_
  refine mj_get (ci := 0) (j := 0) d_IL_erase_9 rfl w_IL_10 (by decide) (by omega) (by assumption) rfl ?_
  refine mz_callV0v (ci := 1) d_IL_erase_12 (m_Ln_clear (d := 0) hw hl) cw_Ln_clear lk_IL_79 rfl rfl (by omega) (by assumption) (by omega) rfl (fun S_12 h_12 => ?_)
  obtain ⟨g1, g2⟩ := h_12
  refine mj_iload_n d_IL_erase_15 rfl ?_
  refine mz_iret d_IL_erase_16 rfl (rfl) ?_
  unfold mj_two at ht
  obtain ⟨K2, D2, n2, h2, z2, hs⟩ := hs
  exact ⟨g1.tr (mj_fr.rf _ []) (by simp) (by simp), rfl, cu, sp, ht, g1.w.trans hw, g1.at ho (by simp), g2, hk.fr g1 (by simp), hc.fr g1 (by simp; omega), ⟨K2, D2, n2, h2, z2, hs.fr g1 (by simp; omega)⟩, hb⟩
theorem m_IL_place (hI : mj_IL S L C fp n h KM acc) : mj_Met Γ d y_IL_place M_IL_place [.ref 0] S 0 0 (mj_I fun z S' => S' = S ∧ z = fp) := by
  obtain ⟨cu, sp, ht, hw, ho, hl, hk, hc, hs, hb⟩ := hI
  have ho0 : S.1 0 = _ := ho
  refine mj_Met.of (by decide) ⟨rfl, rfl⟩ rfl rfl rfl ?_
  refine mj_aload_n d_IL_place_0 rfl ?_
  refine mj_get (ci := 0) (j := 8) d_IL_place_1 rfl w_IL_65 (by decide) (by omega) (by assumption) rfl ?_
  refine mz_iret d_IL_place_4 rfl (rfl) ?_
  exact ⟨rfl, rfl⟩
theorem m_IL_character (hI : mj_IL S L C fp n h KM acc) {k : Int} (hk0 : iR k) (hd : 1 ≤ d) : mj_Met Γ d y_IL_character M_IL_character [.ref 0, .int (iZ k)] S 0 0 (mj_I fun z S' => S' = S ∧ z = ln_at L C k) := by
  obtain ⟨cu, sp, ht, hw, ho, hl, hk, hc, hs, hb⟩ := hI
  have ho0 : S.1 0 = _ := ho
  have l1 := hl.1
  refine mj_Met.of (by decide) ⟨rfl, rfl⟩ rfl rfl rfl ?_
  refine mj_aload_n d_IL_character_0 rfl ?_
  refine mj_get (ci := 0) (j := 0) d_IL_character_1 rfl w_IL_10 (by decide) (by omega) (by assumption) rfl ?_
  refine mj_iload_n d_IL_character_4 rfl ?_
  refine mz_callV1i (ci := 1) d_IL_character_5 (m_Ln_at (d := 0) hw hl hk0) cw_Ln_at lk_IL_150 rfl rfl (by omega) (by assumption) (by omega) rfl (fun z_5 S_5 h_5 => ?_)
  obtain ⟨rfl, rfl⟩ := h_5
  have hr := ln_at_r (n := L) (C := C) hl.2.2.2 k
  have hn := mj_narC hr.1 hr.2
  refine mz_iret d_IL_character_8 rfl (hn) ?_
  exact ⟨rfl, rfl⟩
theorem m_IL_count (hI : mj_IL S L C fp n h KM acc) {k : Int} (hk0 : iR k) : mj_Met Γ d y_IL_count M_IL_count [.ref 0, .int (iZ k)] S 0 0 (mj_I fun z S' => S' = S ∧ z = if k = 0 then (acc.length : Int) else if k = 1 then (n : Int) else if k = 2 then (h : Int) else -1) := by
  obtain ⟨cu, sp, ht, hw, ho, hl, hk, ⟨KC, D, hc, -⟩, hs, hb⟩ := hI
  have ho0 : S.1 0 = _ := ho
  have c1 := hc.1
  have hcu : cu < 65 := by unfold mj_two at ht; omega
  have e : (iZ k).toInt = k := iZ_toInt hk0
  refine mj_Met.of (by decide) ⟨rfl, rfl⟩ rfl rfl rfl ?_
  refine mj_iload_n d_IL_count_0 rfl ?_
  by_cases q0 : k = 0
  · subst q0
    refine mj_tabIn 28 d_IL_count_1 (by rw [e]; omega) (by rw [e]; omega) (off := 27) (by rw [e]; rfl) (by decide) ?_
    refine mj_aload_n d_IL_count_28 rfl ?_
    refine mj_get (ci := 0) (j := 7) d_IL_count_29 rfl w_IL_61 (by decide) (by omega) (by assumption) rfl ?_
    refine mj_get (ci := 8) (j := 4) d_IL_count_32 rfl w_IL_97 (by decide) (by omega) (by assumption) rfl ?_
    refine mz_iret d_IL_count_35 rfl (rfl) ?_
    exact ⟨rfl, rfl⟩
  · by_cases q1 : k = 1
    · subst q1
      refine mj_tabIn 36 d_IL_count_1 (by rw [e]; omega) (by rw [e]; omega) (off := 35) (by rw [e]; rfl) (by decide) ?_
      refine mj_aload_n d_IL_count_36 rfl ?_
      refine mj_get (ci := 0) (j := 7) d_IL_count_37 rfl w_IL_61 (by decide) (by omega) (by assumption) rfl ?_
      refine mj_get (ci := 8) (j := 2) d_IL_count_40 rfl w_IL_109 (by decide) (by omega) (by assumption) rfl ?_
      refine mz_iret d_IL_count_43 rfl (rfl) ?_
      exact ⟨rfl, rfl⟩
    · by_cases q2 : k = 2
      · subst q2
        refine mj_tabIn 44 d_IL_count_1 (by rw [e]; omega) (by rw [e]; omega) (off := 43) (by rw [e]; rfl) (by decide) ?_
        refine mj_aload_n d_IL_count_44 rfl ?_
        refine mj_get (ci := 0) (j := 7) d_IL_count_45 rfl w_IL_61 (by decide) (by omega) (by assumption) rfl ?_
        refine mj_get (ci := 8) (j := 3) d_IL_count_48 rfl w_IL_112 (by decide) (by omega) (by assumption) rfl ?_
        refine mz_iret d_IL_count_51 rfl (rfl) ?_
        exact ⟨rfl, rfl⟩
      · refine mj_tabOut 52 d_IL_count_1 (by rw [e]; omega) (by decide) ?_
        refine mz_iconst d_IL_count_52 ?_
        refine mz_iret d_IL_count_53 rfl (rfl) ?_
        exact ⟨rfl, by rw [if_neg q0, if_neg q1, if_neg q2]⟩
end IL
