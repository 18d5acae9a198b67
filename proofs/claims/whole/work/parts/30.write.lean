/-! the writer of texts: the whole -/
section TW4
variable {Γ : mj_G} {d n r L : Nat} {S : mj_S} {K F B CF RS RE C : Nat → Int} {xm xl : Value}
/-- the text of a molecule -/
noncomputable def wrT (n : Nat) (K B CF RS RE C : Nat → Int) : Nat × (Nat → Int) :=
  ptI n K B (gtI n B 6 0 (-1) (mj_fl CF (-2) 6, 0, RS, RE)).1 (gtI n B 6 0 (-1) (mj_fl CF (-2) 6, 0, RS, RE)).2.2.1 (gtI n B 6 0 (-1) (mj_fl CF (-2) 6, 0, RS, RE)).2.2.2 (gtI n B 6 0 (-1) (mj_fl CF (-2) 6, 0, RS, RE)).2.1 7 0 (0, C)
theorem m_Tw_writeTo (hT : mj_tab Γ) (hw : S.2.1 = 62) (t1 : S.1 13 = .inr (5, [.ref 14, .ref 15, .ref 16, .int (iZ r), xm, xl])) (t2 : S.1 14 = .inl (0, 6, .inl (mj_z CF))) (t3 : S.1 15 = .inl (0, 10, .inl (mj_z RS))) (t4 : S.1 16 = .inl (0, 10, .inl (mj_z RE))) (hl : mj_ln S L C) (hm : mj_ml S 27 n K F B) (hn : 1 ≤ n ∧ n ≤ 6) (hB : ∀ j, j < 36 → 0 ≤ B j ∧ B j ≤ 3) (hK : ∀ j, j < n → ∃ k : Nat, K j = k ∧ k < 9) (hd : 20 ≤ d) :
    mj_Met Γ d y_Tw_writeTo M_Tw_writeTo [.ref 13, .ref 1, .ref 27] S 0 0 (mj_V fun S' => mj_fr S S' [1, 2, 13, 14, 15, 16] ∧ mj_lp S' (wrT n K B CF RS RE C) ∧ ∃ r2 CF2 RS2 RE2, mj_tw S' r2 27 CF2 RS2 RE2) := by
  refine mj_Met.of (by decide) ⟨rfl, rfl⟩ rfl rfl rfl ?_
  refine mj_aload_n d_Tw_writeTo_0 rfl ?_
  refine mj_aload_n d_Tw_writeTo_1 rfl ?_
  refine mz_put (ci := 5) (j := 5) d_Tw_writeTo_2 rfl w_Tw_21 (by decide) rfl (by omega) (by assumption) (Nat.le_of_ble_eq_true rfl) (⟨rfl, rfl⟩) rfl (fun S_2 w_2 e_2 f_2 => ?_)
  refine mj_aload_n d_Tw_writeTo_5 rfl ?_
  refine mj_aload_n d_Tw_writeTo_6 rfl ?_
  refine mz_put (ci := 5) (j := 4) d_Tw_writeTo_7 rfl w_Tw_25 (by decide) rfl (by omega) (by assumption) (Nat.le_of_ble_eq_true rfl) (⟨rfl, rfl⟩) rfl (fun S_7 w_7 e_7 f_7 => ?_)
  refine mj_aload_n d_Tw_writeTo_10 rfl ?_
  refine mz_iconst d_Tw_writeTo_11 ?_
  refine mz_put (ci := 5) (j := 3) d_Tw_writeTo_12 rfl w_Tw_29 (by decide) rfl (by omega) (by assumption) (Nat.le_of_ble_eq_true rfl) (mj_fit_int _) rfl (fun S_12 w_12 e_12 f_12 => ?_)
  have f2 : mj_fr S S_12 [13] := (f_2.tr f_7 (l := [13]) (by simp) (by simp)).tr f_12 (by simp) (by simp)
  have hw12 : S_12.2.1 = 62 := f2.w.trans hw
  have t2 := f2.at t2 (by simp; try omega)
  have t3 := f2.at t3 (by simp; try omega)
  have t4 := f2.at t4 (by simp; try omega)
  refine mj_aload_n d_Tw_writeTo_15 rfl ?_
  refine mj_get (ci := 5) (j := 0) d_Tw_writeTo_16 rfl w_Tw_9 (by decide) (by omega) (by assumption) rfl ?_
  refine mz_bipush d_Tw_writeTo_19 (by decide) ?_
  refine mz_callS2v d_Tw_writeTo_21 (m_Ar_fill (d := 0) (by omega) t2 (by omega)) cw_Ar_fill lk_Tw_33 (by omega) rfl (fun S_21 h_21 => ?_)
  obtain ⟨g1, g2⟩ := h_21
  have hw21 : S_21.2.1 = 62 := g1.w.trans hw12
  have e13 := g1.at e_12 (by simp)
  have htw : mj_twg S_21 (mj_fl CF (-2) 6, 0, RS, RE) := ⟨e13, g2, g1.at t3 (by simp), g1.at t4 (by simp)⟩
  have f3 : mj_fr S S_21 [13, 14] := f2.tr g1 (by simp) (by simp)
  have hm21 : mj_ml S_21 27 n K F B := hm.fr f3 (by simp)
  have hok : gOK n (mj_fl CF (-2) 6, 0, RS, RE) := ⟨fun j hj => Or.inl (by show mj_fl CF (-2) 6 j = -2; unfold mj_fl; rw [if_pos (by omega)]), by show 0 ≤ 9; decide, fun j j1 j2 => by have : j ≤ 0 := j2; omega⟩
  have hcnt := mj_cnt_le (mj_fl CF (-2) 6) (-2) n
  have h00 : mj_fl CF (-2) 6 0 = -2 := by unfold mj_fl; rw [if_pos (by omega)]
  have hg0 := gtI_ok (B := B) 6 0 (-1) (mj_fl CF (-2) 6, 0, RS, RE) hok (by omega) h00 (by show mj_cnt (mj_fl CF (-2) 6) (-2) n ≤ 6; omega) (Or.inl rfl)
  obtain ⟨rk, hk1, hk2, hk3⟩ := gtI_rk (B := B) 6 0 (-1) (mj_fl CF (-2) 6, 0, RS, RE) (fun _ => 0) (Nat.le_refl _) hok (by omega) h00 (by show mj_cnt (mj_fl CF (-2) 6) (-2) n ≤ 6; omega) (Or.inl rfl) (fun b x hb hx hbx => by
    have hbx : mj_fl CF (-2) 6 b = x := hbx
    unfold mj_fl at hbx
    rw [if_pos (by omega)] at hbx
    omega)
  refine mj_aload_n d_Tw_writeTo_24 rfl ?_
  refine mz_iconst d_Tw_writeTo_25 ?_
  refine mz_iconst d_Tw_writeTo_26 ?_
  refine mz_callV2v (ci := 5) d_Tw_writeTo_27 (m_Tw_goThrough (K := K) (F := F) hn.2 hB 6 0 7 (-1) S_21 (mj_fl CF (-2) 6, 0, RS, RE) hw21 htw hm21 hok (by omega) h00 (by show mj_cnt (mj_fl CF (-2) 6) (-2) n ≤ 6; omega) (Or.inl rfl) (by omega)) cw_Tw_goThrough lk_Tw_39 rfl rfl (by omega) (by assumption) (by omega) rfl (fun S_27 h_27 => ?_)
  obtain ⟨g3, g4⟩ := h_27
  obtain ⟨g, hg⟩ : ∃ g : GS, g = gtI n B 6 0 (-1) (mj_fl CF (-2) 6, 0, RS, RE) := ⟨_, rfl⟩
  have hwr : wrT n K B CF RS RE C = ptI n K B g.1 g.2.2.1 g.2.2.2 g.2.1 7 0 (0, C) := by unfold wrT; rw [← hg]
  rw [← hg] at hg0 hk1 g4
  have f4 : mj_fr S S_27 [13, 14, 15, 16] := f3.tr g3 (by simp) (by simp)
  have hw27 : S_27.2.1 = 62 := f4.w.trans hw
  have hl27 : mj_ln S_27 L C := hl.fr f4 (by simp) (by simp)
  have u1 := g4.1
  have l1 := hl27.1
  refine mj_aload_n d_Tw_writeTo_30 rfl ?_
  refine mj_get (ci := 5) (j := 5) d_Tw_writeTo_31 rfl w_Tw_21 (by decide) (by omega) (by assumption) rfl ?_
  refine mz_callV0v (ci := 1) d_Tw_writeTo_34 (m_Ln_clear (d := 0) hw27 hl27) cw_Ln_clear lk_Tw_43 rfl rfl (by omega) (by assumption) (by omega) rfl (fun S_34 h_34 => ?_)
  obtain ⟨g5, g6⟩ := h_34
  have f5 : mj_fr S S_34 [1, 13, 14, 15, 16] := f4.tr g5 (by simp) (by simp)
  have hw34 : S_34.2.1 = 62 := f5.w.trans hw
  have ht34 : mj_tw S_34 g.2.1 27 g.1 g.2.2.1 g.2.2.2 := mj_tw.fr g4 g5 (by simp) (by simp) (by simp) (by simp)
  have u2 := ht34.1
  refine mj_aload_n d_Tw_writeTo_37 rfl ?_
  refine mz_iconst d_Tw_writeTo_38 ?_
  refine mz_callV1v (ci := 5) d_Tw_writeTo_39 (m_Tw_putAtom (Γ := Γ) (K := K) (F := F) (B := B) hT hn.2 hg0.1.2.1 hB hK (fun j j1 j2 => by obtain ⟨⟨x, hx, hx2⟩, ⟨y, hy, hy2⟩⟩ := hg0.1.2.2 j j1 j2; exact ⟨⟨x, hx, by omega⟩, ⟨y, hy, by omega⟩⟩) (fun j hj => by rcases hg0.1.1 j hj with z | z | ⟨x, z, z2⟩ <;> rw [z] <;> omega) (rk := fun x => min (rk x) 6) (fun b x hb hx hbx => by have := (hk1 b x hb hx hbx).2; show min (rk x) 6 < min (rk b) 6 ∧ min (rk b) 6 ≤ 6; omega) 7 0 19 S_34 (0, C) hw34 ht34 (hm.fr f5 (by simp)) g6 (by omega) (by show min (rk 0) 6 ≤ 6; omega) (Nat.le_add_right 7 _) (by omega)) cw_Tw_putAtom lk_Tw_48 rfl rfl (by omega) (by assumption) (by omega) rfl (fun S_39 h_39 => ?_)
  obtain ⟨g7, g8⟩ := h_39
  refine mz_vret d_Tw_writeTo_42 rfl ?_
  rw [hwr]
  exact ⟨f5.tr g7 (by simp) (by simp), g8, _, _, _, _, ht34.fr g7 (by simp) (by simp) (by simp) (by simp)⟩
end TW4
