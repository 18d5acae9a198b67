/-! the law: its loop, its begin -/
theorem i32_nI (x : Int32) : x = nI x.toBitVec.toNat := by
  apply Int32.toBitVec_inj.mp
  show x.toBitVec = (Int32.ofNat x.toBitVec.toNat).toBitVec
  simp
theorem i32_and15 (x : Int32) : ∃ t : Nat, t < 16 ∧ x &&& iZ 15 = nI t := by
  refine ⟨x.toBitVec.toNat &&& 15, ?_, ?_⟩
  · have : x.toBitVec.toNat &&& 15 ≤ 15 := Nat.and_le_right
    omega
  · have e := mj_nand x.toBitVec.toNat 15
    rw [← i32_nI x] at e
    exact e
section LW3
variable {Γ : mj_G} {d Ln : Nat} {XS : Nat → Int}
theorem law_loop (hT : mj_tab Γ) (hR : Γ.ro 3 = (Ln, .inl (mj_z XS))) (hXS : ∀ j, iR (XS j)) (hLn : Ln ≤ 2048) (hd : 300 ≤ d) : ∀ (u i : Nat) (S : mj_S) (rf : Int) (L : Nat) (C : Nat → Int) (fp : Int) (n h : Nat) (KM : Nat → Nat) (acc : List Nat) (f : Nat → Int64) (x5 x6 : Value), c1 x5 → c1 x6 → Ln ≤ i + 4 * u + 3 → i ≤ 2052 → JS S rf L C fp n h KM acc f → mj_Ok Γ d M_Lw_law u (6 * u) 23 [.ref (mj_st + 3), .ref 0, .ref 40, .ref 64, .int (iZ i), x5, x6] [] S (mj_I fun z _ => z = 1) := by
  intro u
  induction u with
  | zero =>
    intro i S rf L C fp n h KM acc f x5 x6 g5 g6 hu hi hJ
    refine mj_iload d_Lw_law_23 rfl ?_
    refine mj_aload_n d_Lw_law_25 rfl ?_
    refine mj_lenro (r := 3) d_Lw_law_26 (by decide) ?_
    rw [show nI (Γ.ro 3).1 = iZ ((Ln : Nat) : Int) by rw [hR]; rfl]
    refine mz_iconst d_Lw_law_27 ?_
    refine mz_isub d_Lw_law_28 ?_
    refine mz_icmp_gt 582 d_Lw_law_29 (by decide) (by omega) (by omega) (fun c_29 => ?_) (fun c_29 => ?_)
    · refine mz_iconst d_Lw_law_582 ?_
      refine mz_iret d_Lw_law_583 rfl (rfl) ?_
      rfl
    · omega
  | succ u ih =>
    intro i S rf L C fp n h KM acc f x5 x6 g5 g6 hu hi hJ
    refine mj_iload d_Lw_law_23 rfl ?_
    refine mj_aload_n d_Lw_law_25 rfl ?_
    refine mj_lenro (r := 3) d_Lw_law_26 (by decide) ?_
    rw [show nI (Γ.ro 3).1 = iZ ((Ln : Nat) : Int) by rw [hR]; rfl]
    refine mz_iconst d_Lw_law_27 ?_
    refine mz_isub d_Lw_law_28 ?_
    refine mz_icmp_gt 582 d_Lw_law_29 (by decide) (by omega) (by omega) (fun c_29 => ?_) (fun c_29 => ?_)
    · refine mz_iconst d_Lw_law_582 ?_
      refine mz_iret d_Lw_law_583 rfl (rfl) ?_
      rfl
    · have hi4 : i + 4 ≤ Ln := by omega
      have nx : LN Γ d u (6 * u) i (mj_I fun z _ => z = 1) := by
        intro S' rf' L' C' fp' n' h' KM' acc' f' y5 y6 k5 k6 hJ'
        refine mz_inc4 d_Lw_law_576 (by unfold mj_c1; simp only [List.all_cons, k5, k6]; rfl) ?_
        refine mj_goto 23 d_Lw_law_579 (by decide) ?_
        have w := ih (i + 4) S' rf' L' C' fp' n' h' KM' acc' f' y5 y6 k5 k6 (by omega) (by omega) hJ'
        rw [show ((i + 4 : Nat) : Int) = (i : Int) + 4 by omega] at w
        exact w
      have nx2 : LN Γ d (u + 1) (6 * (u + 1)) i (mj_I fun z _ => z = 1) := nx.more
      refine mj_aload_n d_Lw_law_32 rfl ?_
      refine mj_iload d_Lw_law_33 rfl ?_
      refine mz_irot (j := i) d_Lw_law_35 (by decide) rfl (hR) (by omega) (by omega) ?_ (by omega)
      refine mz_bipush d_Lw_law_36 (by decide) ?_
      refine mj_iand d_Lw_law_38 ?_
      obtain ⟨t, ht, et⟩ := i32_and15 (iZ (XS i))
      rw [et]
      rw [show 6 * (u + 1) = 6 * u + 6 by omega] at nx2 ⊢
      have hcs : t = 0 ∨ t = 1 ∨ t = 2 ∨ t = 3 ∨ t = 4 ∨ t = 5 ∨ t = 6 ∨ t = 7 ∨ t = 8 ∨ t = 9 ∨ t = 10 ∨ t = 11 ∨ t = 12 ∨ t = 13 ∨ t = 14 ∨ t = 15 := by omega
      rcases hcs with rfl | rfl | rfl | rfl | rfl | rfl | rfl | rfl | rfl | rfl | rfl | rfl | rfl | rfl | rfl | rfl
      · exact mj_tabIn 100 d_Lw_law_39 (by decide) (by decide) rfl (by decide) (law_type hT hJ g5 g6 hR hXS hLn hi4 hd nx)
      · exact mj_tabIn 158 d_Lw_law_39 (by decide) (by decide) rfl (by decide) (law_erase hJ g5 g6 hd nx2)
      · exact mj_tabIn 171 d_Lw_law_39 (by decide) (by decide) rfl (by decide) (law_formula hT hJ g5 g6 hd nx2)
      · exact mj_tabIn 184 d_Lw_law_39 (by decide) (by decide) rfl (by decide) (law_read hT hJ g5 g6 hd nx2)
      · exact mj_tabIn 197 d_Lw_law_39 (by decide) (by decide) rfl (by decide) (law_place hJ g5 g6 hd nx2)
      · exact mj_tabIn 210 d_Lw_law_39 (by decide) (by decide) rfl (by decide) (law_count hJ g5 g6 hR hXS hLn hi4 hd nx2)
      · exact mj_tabIn 235 d_Lw_law_39 (by decide) (by decide) rfl (by decide) (law_element hT hJ g5 g6 hR hXS hLn hi4 hd nx)
      · exact mj_tabIn 291 d_Lw_law_39 (by decide) (by decide) rfl (by decide) (law_bond hT hJ g5 g6 hR hXS hLn hi4 hd nx)
      · exact mj_tabIn 371 d_Lw_law_39 (by decide) (by decide) rfl (by decide) (law_hydrogens hT hJ g5 g6 hR hXS hLn hi4 hd nx)
      · exact mj_tabIn 439 d_Lw_law_39 (by decide) (by decide) rfl (by decide) (law_ways hT hJ g5 g6 hR hXS hLn hi4 hd nx)
      · exact mj_tabIn 495 d_Lw_law_39 (by decide) (by decide) rfl (by decide) (law_write hT hJ g5 g6 hR hXS hLn hi4 hd nx)
      · exact mj_tabIn 551 d_Lw_law_39 (by decide) (by decide) rfl (by decide) (law_char hJ g5 g6 hR hXS hLn hi4 hd nx2)
      · exact mj_tabOut 576 d_Lw_law_39 (by decide) (by decide) (nx2 S rf L C fp n h KM acc f _ _ g5 g6 hJ)
      · exact mj_tabOut 576 d_Lw_law_39 (by decide) (by decide) (nx2 S rf L C fp n h KM acc f _ _ g5 g6 hJ)
      · exact mj_tabOut 576 d_Lw_law_39 (by decide) (by decide) (nx2 S rf L C fp n h KM acc f _ _ g5 g6 hJ)
      · exact mj_tabOut 576 d_Lw_law_39 (by decide) (by decide) (nx2 S rf L C fp n h KM acc f _ _ g5 g6 hJ)
theorem law_begin (hT : mj_tab Γ) (hR : Γ.ro 3 = (Ln, .inl (mj_z XS))) (hXS : ∀ j, iR (XS j)) (hLn : Ln ≤ 2048) {S : mj_S} (hS1 : S.2.1 = 0) (hS2 : S.2.2 = 0) (hd : 400 ≤ d) : mj_Ok Γ d M_Lw_law 600000 7000000 0 [.ref (mj_st + 3), .retAddr 0, .retAddr 0, .retAddr 0, .retAddr 0, .retAddr 0, .retAddr 0] [] S (mj_I fun z _ => z = 1) := by
  refine mz_newo (ci := 0) (w := 0) (fs := [.null, .null, .null, .null, .null, .null, .null, .null, .int (iZ 0)]) d_Lw_law_0 rfl nw_Lw_8 ia_IL ini_IL (by decide +kernel) rfl hS1 hS2 (by decide) (by decide) (by decide) (fun Sa a1 a2 a3 _ => ?_)
  refine mj_dup d_Lw_law_3 rfl ?_
  refine mz_ctor d_Lw_law_4 (m_IL_init (d := 3) a1 a2 a3 (by omega)) cw_IL_init lk_Lw_35 rfl (by omega) rfl (by decide) (by decide) (fun Sb hb => ?_)
  obtain ⟨⟨b1, b2, b3⟩, r0, r1, r2, r3, r4, r5, r6, r7, r8, r9, r10, r11, r12, r13, r14, r15, r16, r17, r18, r19, r20, r21, r22, r23, r24, r25, r26, r27, r28, r29, r30, r31, r32, r33, r34, r35, r36, r37, r38, r39⟩ := hb
  refine mz_ast1 d_Lw_law_7 (rfl) ?_
  refine mz_newo (ci := 9) (w := 40) (fs := [.int (iZ 0), .int (iZ 0), .null, .int (iZ 0), .int (iZ 0), .int (iZ 0), .null, .int (iZ 0), .null, .int (iZ 0), .null, .null, .null, .int (iZ 0), .null, .int (iZ 0), .null, .null, .null, .int (iZ 0), .null, .null, .null, .null, .null, .null, .null, .null, .null, .null, .null, .null, .null]) d_Lw_law_8 rfl nw_Lw_36 ia_Mo ini_Mo (by decide +kernel) rfl b1 b2 (by decide) (by decide) (by decide) (fun Sc c1' c2 c3 c4 => ?_)
  refine mj_dup d_Lw_law_11 rfl ?_
  refine mz_ctor d_Lw_law_12 (m_Mo_init (d := 1) c1' c2 c3 (by omega)) cw_Mo_init lk_Lw_38 rfl (by omega) rfl (by decide) (by decide) (fun Sd hd' => ?_)
  obtain ⟨⟨d1, d2, d3⟩, q40, q41, q42, q43, q44, q45, q46, q47, q48, q49, q50, q51, q52, q53, q54, q55, q56, q57, q58, q59, q60, q61, q62, q63⟩ := hd'
  refine mz_ast2 d_Lw_law_15 (rfl) ?_
  refine mz_iconst d_Lw_law_16 ?_
  have d1 : Sd.2.1 = 64 := d1
  have d2 : Sd.2.2 = 64 := d2
  have lo : ∀ j, j < 40 → ∀ e, Sb.1 j = e → Sd.1 j = e := fun j hj e he => ((d3 j (by omega) (by omega)).trans (c4 j (by omega))).trans he
  have step := mj_newa (Γ := Γ) (d := d) (M := M_Lw_law) (k := 599935) (n := 6983239) (lv := [.ref (mj_st + 3), .ref 0, .ref 40, .retAddr 0, .retAddr 0, .retAddr 0, .retAddr 0]) (st := []) (S := Sd) (P := mj_I fun z _ => z = 1) (i := iZ 1) (t := 3) (N := 1) (a0 := (1, .inr (.inl (fun _ => 0)))) d_Lw_law_17 rfl rfl ac_J rfl (by decide) (by decide) (fun cA => by rw [vp_cell_l]; rfl) (by rw [d1, d2]) (by rw [d1]; decide) ?_
  · exact step.more (Nat.le_refl _) (by decide) (by decide)
  · rw [d1]
    refine mz_ast3 d_Lw_law_19 (rfl) ?_
    refine mz_iconst d_Lw_law_20 ?_
    refine mz_ist4 d_Lw_law_21 (rfl) ?_
    have e61 : (mj_push Sd (.inl (3, 1, .inr (.inl (fun _ => 0))))).1 64 = .inl (3, 1, .inr (.inl (fun _ => 0))) := by
      show va_up Sd.1 Sd.2.1 _ 64 = _
      rw [d1, va_up_self]
    have ot : ∀ j, j < 64 → ∀ e, Sd.1 j = e → (mj_push Sd (.inl (3, 1, .inr (.inl (fun _ => 0))))).1 j = e := by
      intro j hj e he
      show va_up Sd.1 Sd.2.1 _ j = _
      rw [d1, va_up_ne _ _ (by omega)]
      exact he
    have w1 : (mj_push Sd (.inl (3, 1, .inr (.inl (fun _ => 0))))).2.1 = 65 := by show Sd.2.1 + 1 = 65; rw [d1]
    obtain ⟨Se, hSe⟩ : ∃ Se, Se = mj_push Sd (.inl (3, 1, .inr (.inl (fun _ => 0)))) := ⟨_, rfl⟩
    rw [← hSe] at e61 ot w1 ⊢
    have l : ∀ j, j < 40 → ∀ e, Sb.1 j = e → Se.1 j = e := fun j hj e he => ot j (by omega) e (lo j hj e he)
    have z0 : ∀ j : Nat, (0 : Int) ≤ (fun _ => (0 : Int)) j ∧ (fun _ => (0 : Int)) j < 65536 := fun j => ⟨by show (0 : Int) ≤ 0; decide, by show (0 : Int) < 65536; decide⟩
    have hI : mj_IL Se 0 (fun _ => 0) (-1) 0 0 (fun _ => 0) [] := by
      refine ⟨37, 21, ⟨rfl, rfl⟩, w1, l 0 (by omega) _ r0, ⟨l 1 (by omega) _ r1, l 2 (by omega) _ r2, by omega, z0⟩, ⟨⟨0, _, l 3 (by omega) _ r3, l 4 (by omega) _ r4⟩, ⟨(0, fun _ => 0, fun _ => 0, fun _ => 0, fun _ => 0, fun _ => 0, fun _ => 0, 0, 0, false, 0), l 5 (by omega) _ r5, ⟨l 6 (by omega) _ r6, l 7 (by omega) _ r7, l 8 (by omega) _ r8, l 9 (by omega) _ r9, by omega⟩, l 10 (by omega) _ r10, l 11 (by omega) _ r11, l 12 (by omega) _ r12⟩, ⟨0, _, _, _, l 13 (by omega) _ r13, l 14 (by omega) _ r14, l 15 (by omega) _ r15, l 16 (by omega) _ r16⟩, ⟨⟨0, 0, 0, _, _, l 17 (by omega) _ r17, l 18 (by omega) _ r18, l 19 (by omega) _ r19, fun j hj => rfl⟩, ⟨0, 0, 0, _, _, l 24 (by omega) _ r24, l 25 (by omega) _ r25, l 26 (by omega) _ r26, fun j hj => rfl⟩⟩, ⟨_, _, l 20 (by omega) _ r20, l 31 (by omega) _ r31, l 32 (by omega) _ r32⟩, ⟨0, _, _, _, l 27 (by omega) _ r27, l 28 (by omega) _ r28, l 29 (by omega) _ r29, l 30 (by omega) _ r30, by omega⟩, ⟨0, _, _, _, l 33 (by omega) _ r33, l 34 (by omega) _ r34, l 35 (by omega) _ r35, l 36 (by omega) _ r36, by omega⟩⟩, ⟨_, _, ⟨l 37 (by omega) _ r37, l 38 (by omega) _ r38, l 39 (by omega) _ r39, by omega⟩, fun j hj => absurd hj (Nat.not_lt_zero j), fun j _ hj => absurd hj (Nat.not_lt_zero j)⟩, ⟨_, _, 0, 0, 0, l 21 (by omega) _ r21, l 22 (by omega) _ r22, l 23 (by omega) _ r23, by omega⟩, by omega, by omega, by decide⟩
    have hM : mo_IL Se 0 0 (fun _ => 0) (-1) 0 0 (fun _ => 0) [] := by
      refine ⟨w1, by omega, ⟨0, 0, 0, 0, ot 40 (by omega) _ q40⟩, ⟨ot 41 (by omega) _ q41, z0⟩, ⟨_, ot 42 (by omega) _ q42, fun j hj => absurd hj (Nat.not_lt_zero j)⟩, ⟨_, ot 43 (by omega) _ q43, fun i hi => absurd hi (Nat.not_lt_zero i)⟩, ⟨fun o o1 o2 => ?_, _, ot 45 (by omega) _ q45, fun j hj => ⟨0, rfl, by omega⟩⟩, by omega, by omega, by decide⟩
      have ho : o = 44 ∨ o = 45 ∨ o = 46 ∨ o = 47 ∨ o = 48 ∨ o = 49 ∨ o = 50 ∨ o = 51 ∨ o = 52 ∨ o = 53 ∨ o = 54 ∨ o = 55 ∨ o = 56 ∨ o = 57 ∨ o = 58 ∨ o = 59 ∨ o = 60 ∨ o = 61 ∨ o = 62 ∨ o = 63 := by omega
      rcases ho with rfl | rfl | rfl | rfl | rfl | rfl | rfl | rfl | rfl | rfl | rfl | rfl | rfl | rfl | rfl | rfl | rfl | rfl | rfl | rfl
      · exact ⟨_, ot 44 (by omega) _ q44⟩
      · exact ⟨_, ot 45 (by omega) _ q45⟩
      · exact ⟨_, ot 46 (by omega) _ q46⟩
      · exact ⟨_, ot 47 (by omega) _ q47⟩
      · exact ⟨_, ot 48 (by omega) _ q48⟩
      · exact ⟨_, ot 49 (by omega) _ q49⟩
      · exact ⟨_, ot 50 (by omega) _ q50⟩
      · exact ⟨_, ot 51 (by omega) _ q51⟩
      · exact ⟨_, ot 52 (by omega) _ q52⟩
      · exact ⟨_, ot 53 (by omega) _ q53⟩
      · exact ⟨_, ot 54 (by omega) _ q54⟩
      · exact ⟨_, ot 55 (by omega) _ q55⟩
      · exact ⟨_, ot 56 (by omega) _ q56⟩
      · exact ⟨_, ot 57 (by omega) _ q57⟩
      · exact ⟨_, ot 58 (by omega) _ q58⟩
      · exact ⟨_, ot 59 (by omega) _ q59⟩
      · exact ⟨_, ot 60 (by omega) _ q60⟩
      · exact ⟨_, ot 61 (by omega) _ q61⟩
      · exact ⟨_, ot 62 (by omega) _ q62⟩
      · exact ⟨_, ot 63 (by omega) _ q63⟩
    have w := law_loop hT hR hXS hLn (d := d) (by omega) 512 0 Se 0 0 (fun _ => 0) (-1) 0 0 (fun _ => 0) [] (fun _ => 0) (.retAddr 0) (.retAddr 0) rfl rfl (by omega) (by omega) ⟨hI, hM, e61, Or.inl ⟨rfl, rfl⟩⟩
    exact w.more (Nat.le_refl _) (by decide) (by decide)
end LW3
