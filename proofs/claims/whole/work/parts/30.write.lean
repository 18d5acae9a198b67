/-! the writer of texts: the whole -/
section TW4
variable {Γ : mj_G} {d n r L : Nat} {S : mj_S} {K F B CF RS RE C : Nat → Int}
/-- the text of a molecule -/
noncomputable def wrT (n : Nat) (K B CF RS RE C : Nat → Int) : Nat × (Nat → Int) :=
  ptI n K B (gtI n B 6 0 (-1) (mj_fl CF (-2) 6, 0, RS, RE)).1 (gtI n B 6 0 (-1) (mj_fl CF (-2) 6, 0, RS, RE)).2.2.1 (gtI n B 6 0 (-1) (mj_fl CF (-2) 6, 0, RS, RE)).2.2.2 (gtI n B 6 0 (-1) (mj_fl CF (-2) 6, 0, RS, RE)).2.1 7 0 (0, C)
theorem m_Tw_writeAnew (hT : mj_tab Γ) (hw : S.2.1 = 65) (t1 : S.1 13 = .inr (5, [.ref 14, .ref 15, .ref 16, .int (iZ r)])) (t2 : S.1 14 = .inl (0, 6, .inl (mj_z CF))) (t3 : S.1 15 = .inl (0, 10, .inl (mj_z RS))) (t4 : S.1 16 = .inl (0, 10, .inl (mj_z RE))) (hl : mj_ln S L C) (hm : mj_ml S 33 n K F B) (hn : 1 ≤ n ∧ n ≤ 6) (hB : ∀ j, j < 36 → 0 ≤ B j ∧ B j ≤ 3) (hK : ∀ j, j < n → ∃ k : Nat, K j = k ∧ k < 9) (hd : 20 ≤ d) :
    mj_Met Γ d y_Tw_writeAnew M_Tw_writeAnew [.ref 13, .ref 1, .ref 33] S 0 0 (mj_V fun S' => mj_fr S S' [1, 2, 13, 14, 15, 16] ∧ mj_lp S' (wrT n K B CF RS RE C) ∧ ∃ r2 CF2 RS2 RE2, mj_tw S' r2 CF2 RS2 RE2) := by
  refine mj_Met.of (by decide) ⟨rfl, rfl⟩ rfl rfl rfl ?_
  refine mj_aload_n d_Tw_writeAnew_0 rfl ?_
  refine mz_iconst d_Tw_writeAnew_1 ?_
  refine mz_put (ci := 5) (j := 3) d_Tw_writeAnew_2 rfl w_Tw_21 (by decide) rfl (by omega) (by assumption) (Nat.le_of_ble_eq_true rfl) (mj_fit_int _) rfl (fun S_2 w_2 e_2 f_2 => ?_)
  have f2 : mj_fr S S_2 [13] := f_2
  have hw12 : S_2.2.1 = 65 := f2.w.trans hw
  have t2 := f2.at t2 (by simp; try omega)
  have t3 := f2.at t3 (by simp; try omega)
  have t4 := f2.at t4 (by simp; try omega)
  refine mj_aload_n d_Tw_writeAnew_5 rfl ?_
  refine mj_get (ci := 5) (j := 0) d_Tw_writeAnew_6 rfl w_Tw_9 (by decide) (by omega) (by assumption) rfl ?_
  refine mz_bipush d_Tw_writeAnew_9 (by decide) ?_
  refine mz_callS2v d_Tw_writeAnew_11 (m_Ar_fill (d := 0) (by omega) t2 (by omega)) cw_Ar_fill lk_Tw_25 (by omega) rfl (fun S_11 h_11 => ?_)
  obtain ⟨g1, g2⟩ := h_11
  have hw21 : S_11.2.1 = 65 := g1.w.trans hw12
  have e13 := g1.at e_2 (by simp)
  have htw : mj_twg S_11 (mj_fl CF (-2) 6, 0, RS, RE) := ⟨e13, g2, g1.at t3 (by simp), g1.at t4 (by simp)⟩
  have f3 : mj_fr S S_11 [13, 14] := f2.tr g1 (by simp) (by simp)
  have hm21 : mj_ml S_11 33 n K F B := hm.fr f3 (by simp)
  have hok : gOK n (mj_fl CF (-2) 6, 0, RS, RE) := ⟨fun j hj => Or.inl (by show mj_fl CF (-2) 6 j = -2; unfold mj_fl; rw [if_pos (by omega)]), by show 0 ≤ 9; decide, fun j j1 j2 => by have : j ≤ 0 := j2; omega⟩
  have hcnt := mj_cnt_le (mj_fl CF (-2) 6) (-2) n
  have h00 : mj_fl CF (-2) 6 0 = -2 := by unfold mj_fl; rw [if_pos (by omega)]
  have hg0 := gtI_ok (B := B) 6 0 (-1) (mj_fl CF (-2) 6, 0, RS, RE) hok (by omega) h00 (by show mj_cnt (mj_fl CF (-2) 6) (-2) n ≤ 6; omega) (Or.inl rfl)
  obtain ⟨rk, hk1, hk2, hk3, hk4⟩ := gtI_rk (B := B) 6 0 (-1) (mj_fl CF (-2) 6, 0, RS, RE) (fun _ => 0) (Nat.le_refl _) hok (by omega) h00 (by show mj_cnt (mj_fl CF (-2) 6) (-2) n ≤ 6; omega) (Or.inl rfl) (fun b x hb hx hbx => by
    have hbx : mj_fl CF (-2) 6 b = x := hbx
    unfold mj_fl at hbx
    rw [if_pos (by omega)] at hbx
    omega)
  refine mj_aload_n d_Tw_writeAnew_14 rfl ?_
  refine mj_aload_n d_Tw_writeAnew_15 rfl ?_
  refine mz_iconst d_Tw_writeAnew_16 ?_
  refine mz_iconst d_Tw_writeAnew_17 ?_
  refine mz_iconst d_Tw_writeAnew_18 ?_
  refine mz_callV4v (ci := 5) d_Tw_writeAnew_19 (m_Tw_goThrough (K := K) (F := F) hn.2 hB 6 0 7 (-1) 0 S_11 (mj_fl CF (-2) 6, 0, RS, RE) hw21 htw hm21 hok (by omega) h00 (by show mj_cnt (mj_fl CF (-2) 6) (-2) n ≤ 6; omega) (Or.inl rfl) (by omega) (by omega)) cw_Tw_goThrough lk_Tw_31 rfl rfl (by omega) (by assumption) (by omega) rfl (fun S_19 h_19 => ?_)
  obtain ⟨g3, g4⟩ := h_19
  obtain ⟨g, hg⟩ : ∃ g : GS, g = gtI n B 6 0 (-1) (mj_fl CF (-2) 6, 0, RS, RE) := ⟨_, rfl⟩
  have hwr : wrT n K B CF RS RE C = ptI n K B g.1 g.2.2.1 g.2.2.2 g.2.1 7 0 (0, C) := by unfold wrT; rw [← hg]
  have hout : ∀ j, n ≤ j → j < 6 → g.1 j = -2 := fun j h1 h2 => by
    rw [hg, gtI_out h1 6 0 (-1) _ (by omega)]
    show mj_fl CF (-2) 6 j = -2
    unfold mj_fl
    rw [if_pos h2]
  rw [← hg] at hg0 hk1 g4
  have f4 : mj_fr S S_19 [13, 14, 15, 16] := f3.tr g3 (by simp) (by simp)
  have hw27 : S_19.2.1 = 65 := f4.w.trans hw
  have hl27 : mj_ln S_19 L C := hl.fr f4 (by simp) (by simp)
  have u1 := g4.1
  have l1 := hl27.1
  refine mj_aload_n d_Tw_writeAnew_22 rfl ?_
  refine mz_callV0v (ci := 1) d_Tw_writeAnew_23 (m_Ln_clear (d := 0) hw27 hl27) cw_Ln_clear lk_Tw_35 rfl rfl (by omega) (by assumption) (by omega) rfl (fun S_23 h_23 => ?_)
  obtain ⟨g5, g6⟩ := h_23
  have f5 : mj_fr S S_23 [1, 13, 14, 15, 16] := f4.tr g5 (by simp) (by simp)
  have hw34 : S_23.2.1 = 65 := f5.w.trans hw
  have ht34 : mj_tw S_23 g.2.1 g.1 g.2.2.1 g.2.2.2 := mj_tw.fr g4 g5 (by simp) (by simp) (by simp) (by simp)
  have u2 := ht34.1
  refine mj_aload_n d_Tw_writeAnew_26 rfl ?_
  refine mj_aload_n d_Tw_writeAnew_27 rfl ?_
  refine mj_aload_n d_Tw_writeAnew_28 rfl ?_
  refine mz_iconst d_Tw_writeAnew_29 ?_
  refine mz_iconst d_Tw_writeAnew_30 ?_
  refine mz_callV4v (ci := 5) d_Tw_writeAnew_31 (m_Tw_putAtom (Γ := Γ) (K := K) (F := F) (B := B) hT hn.2 hg0.1.2.1 hB hK (fun j j1 j2 => by obtain ⟨⟨x, hx, hx2⟩, ⟨y, hy, hy2⟩⟩ := hg0.1.2.2 j j1 j2; exact ⟨⟨x, hx, by omega⟩, ⟨y, hy, by omega⟩⟩) (fun j hj => by rcases hg0.1.1 j hj with z | z | ⟨x, z, z2⟩ <;> rw [z] <;> omega) hout (rk := fun x => min (rk x) 6) (fun b x hb hx hbx => by have := (hk1 b x hb hx hbx).2; show min (rk x) 6 < min (rk b) 6 ∧ min (rk b) 6 ≤ 6; omega) 7 0 19 0 S_23 (0, C) hw34 ht34 (hm.fr f5 (by simp)) g6 (by omega) (by show min (rk 0) 6 ≤ 6; omega) (Nat.le_add_right 7 _) (by omega) (by show (0 : Int) < ((min (rk 0) 6 : Nat) : Int); omega) (by omega)) cw_Tw_putAtom lk_Tw_40 rfl rfl (by omega) (by assumption) (by omega) rfl (fun S_31 h_31 => ?_)
  obtain ⟨g7, g8⟩ := h_31
  refine mz_vret d_Tw_writeAnew_34 rfl ?_
  rw [hwr]
  exact ⟨f5.tr g7 (by simp) (by simp), g8, _, _, _, _, ht34.fr g7 (by simp) (by simp) (by simp) (by simp)⟩
end TW4
