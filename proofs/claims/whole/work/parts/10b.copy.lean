/-! mj, part 10b: System.arraycopy between two int arrays, from place 0 to place 0. -/
/-- the first q of f, then g -/
def mj_cp (f g : Nat → Int) (q : Nat) : Nat → Int := fun j => if j < q then f j else g j
theorem mj_cp_z (f g : Nat → Int) (q : Nat) : va_cpy (mj_z f) (mj_z g) 0 0 q = mj_z (mj_cp f g q) := by
  funext j
  unfold va_cpy mj_z mj_cp
  by_cases h : j < q
  · rw [if_pos (by omega), if_pos h]
    simp
  · rw [if_neg (by omega), if_neg h]
section MJ10b
variable {Γ : mj_G} {d : Nat} {M : mj_M} {k n pc : Nat} {lv st : List Value} {S : mj_S} {P : mj_O → mj_S → Prop}
theorem mz_acopy {idx a b N1 N2 q : Nat} {f g : Nat → Int} (hd : decode M.cc pc = .ok (.invokestatic idx, 3))
    (hw : Cond.methodLink M.own idx arraycopyName ∈ mj_tb ∧ Cond.native arraycopyName ∈ mj_tb ∧ Cond.static arraycopyName ∈ mj_tb ∧ Cond.initialized "java/lang/System" ∈ mj_tb)
    (ha : a < S.2.1) (hb : b < S.2.1) (hea : S.1 a = .inl (0, N1, .inl (mj_z f))) (heb : S.1 b = .inl (0, N2, .inl (mj_z g))) (h1 : q ≤ N1) (h2 : q ≤ N2) (hq : q < 100000) (hd1 : 1 ≤ d) (hst : Nat.ble (st.map fun v => v.category).sum 8 = true)
    (h : ∀ S1 : mj_S, S1.2.1 = S.2.1 → S1.1 b = .inl (0, N2, .inl (mj_z (mj_cp f g q))) → mj_fr S S1 [b] → mj_Ok Γ d M k n (pc + 3) lv st S1 P) :
    mj_Ok Γ d M k n pc lv (.int (iZ (q : Int)) :: .int (iZ 0) :: .ref b :: .int (iZ 0) :: .ref a :: st) S P := by
  intro p e R s m args below meth c H locs cells slots ls hX hS hW hL hN9
  have hC := hX.2.2.2.2.2.2.1
  have hts := hC.w args
  have hfr : d ≤ R.frames := hX.2.2.2.2.2.2.2.1
  have hlo : 40 * d ≤ R.locals := hX.2.2.2.2.2.2.2.2.1
  have has : b < mj_st := Nat.lt_of_lt_of_le hb hW.2.2.1
  have hbA : mj_A Γ (mj_ad Γ b) := by
    show Γ.s.heap.size ≤ mj_ad Γ b
    rw [mj_ad_lt has]
    exact Nat.le_add_right _ _
  have hc0 : H[mj_ad Γ a]? = some (vp_cell (Γ.cA 0) (N1, .inl (mj_z f))) := mj_at_arr hW ha hea
  have hc1 : H[mj_ad Γ b]? = some (vp_cell (Γ.cA 0) (N2, .inl (mj_z g))) := mj_at_arr hW hb heb
  obtain ⟨-, k0, hk0, cm0, hkk0⟩ := (hC.K.2 0 _ rfl).1 N1 (fun j => .int (mj_z f j))
  obtain ⟨-, k1, hk1, cm1, hkk1⟩ := (hC.K.2 0 _ rfl).1 N2 (fun j => .int (mj_z g j))
  have cl : (nI q).toNatClampNeg = q := nI_clamp (by omega)
  have ti : (nI q).toInt = q := by
    have := iZ_toInt (z := (q : Int)) (by omega)
    exact this
  have hcat : ((st.map (mj_v Γ)).map fun v => v.category).sum ≤ 8 := by
    rw [List.map_map, show (fun v : Value => v.category) ∘ mj_v Γ = fun v => v.category from funext fun v => mj_v_cat v]
    exact Nat.le_of_ble_eq_true hst
  have hw1 : nativeFrameWords "java/lang/System" "arraycopy" 5 = 7 := by decide
  intro T hT X
  obtain ⟨vm', X', step⟩ := X.arraycopy hX.1 hX.2.2.2.2.2.1 (hts _ hw.1) (hts _ hw.2.1) (hts _ hw.2.2.1) (hts _ hw.2.2.2) (src := mj_ad Γ a) (dst := mj_ad Γ b) (cs := vp_cell (Γ.cA 0) (N1, .inl (mj_z f))) (cd := vp_cell (Γ.cA 0) (N2, .inl (mj_z g))) (srcPos := 0) (destPos := 0) (n := nI q) (by rw [hT]; exact hc0) (by rw [hT]; exact hc1)
    (fun _ h => by cases h) (fun _ h => by cases h) (fun h => by cases h) (fun h => by cases h) hk0 hk1 hkk0 hkk1 (by rfl) (by decide) (by decide) (nI_pos (by omega))
    (by rw [ti]; show ¬ (0 : Int) + q > ((arrV (Γ.cA 0) N1 (fun j => .int (mj_z f j))).slots.size : Int); rw [arrV_size]; omega)
    (by rw [ti]; show ¬ (0 : Int) + q > ((arrV (Γ.cA 0) N2 (fun j => .int (mj_z g j))).slots.size : Int); rw [arrV_size]; omega)
    (fun vm₁ _ i hi => by
      rw [cl] at hi
      have e : (vp_cell (Γ.cA 0) (N1, .inl (mj_z f))).slots.getD ((0 : Int32).toNatClampNeg + i) .null = .int (mj_z f ((0 : Int32).toNatClampNeg + i)) := by
        show (arrV (Γ.cA 0) N1 (fun j => .int (mj_z f j))).slots.getD _ _ = _
        rw [Array.getD_eq_getD_getElem?, arrV_read _ _ (by show 0 + i < N1; omega)]
        rfl
      rw [e]
      exact ⟨rfl, trivial⟩)
    (g := F0 m pc ls (.int (nI q) :: .int 0 :: .ref (mj_ad Γ b) :: .int 0 :: .ref (mj_ad Γ a) :: st.map (mj_v Γ))) rfl (by show ls.size = _; rw [hX.2.2.2.2.1, hL.1, hN9]) (rest := st.map (mj_v Γ)) rfl (by rw [hX.2.1]; exact hd) (by omega) (by show 2 * 0 + _ + _ ≤ _; rw [hw1]; omega)
  have e1 : copied (vp_cell (Γ.cA 0) (N1, .inl (mj_z f))) (vp_cell (Γ.cA 0) (N2, .inl (mj_z g))) 0 0 (nI q) = vp_cell (Γ.cA 0) (N2, .inl (mj_z (mj_cp f g q))) := by
    rw [← mj_cp_z]
    have w := va_copied (fun z => .int z) (Γ.cA 0) (Γ.cA 0) (n0 := N1) (n1 := N2) (sp := 0) (dp := 0) (n := q) (mj_z f) (mj_z g) (by omega)
    show (arrV (Γ.cA 0) N2 (fun j => .int (mj_z g j))).storeRun (0 : Int32).toNatClampNeg ((arrV (Γ.cA 0) N1 (fun j => .int (mj_z f j))).stretch (0 : Int32).toNatClampNeg (nI q).toNatClampNeg) = _
    rw [cl]
    exact w
  rw [e1] at X' step
  have hl : mj_ad Γ b < H.size := (Array.getElem?_eq_some_iff.mp hc1).1
  have hheap : ((T.setVm vm').setCell (mj_ad Γ b) (vp_cell (Γ.cA 0) (N2, .inl (mj_z (mj_cp f g q))))).heap = H.setIfInBounds (mj_ad Γ b) (vp_cell (Γ.cA 0) (N2, .inl (mj_z (mj_cp f g q)))) := by rw [← hT]; rfl
  have oq : ∀ q1 : Nat, q1 ≠ mj_ad Γ b → (H.setIfInBounds (mj_ad Γ b) (vp_cell (Γ.cA 0) (N2, .inl (mj_z (mj_cp f g q)))))[q1]? = H[q1]? := fun q1 hq1 => by simp [Array.getElem?_setIfInBounds, Ne.symm hq1]
  have oz : (H.setIfInBounds (mj_ad Γ b) (vp_cell (Γ.cA 0) (N2, .inl (mj_z (mj_cp f g q))))).size = H.size := by simp
  have kk := h (mj_up S b (.inl (0, N2, .inl (mj_z (mj_cp f g q))))) rfl (mj_up_self _ _ _) (mj_fr.up _ _ _) p e R s m args below meth c (H.setIfInBounds (mj_ad Γ b) (vp_cell (Γ.cA 0) (N2, .inl (mj_z (mj_cp f g q)))))
    (locs ++ ((vp_cell (Γ.cA 0) (N1, .inl (mj_z f))).stretch (0 : Int32).toNatClampNeg (nI q).toNatClampNeg).zipIdx.map fun q1 => ⟨mj_ad Γ b, (0 : Int32).toNatClampNeg + q1.2⟩) cells slots ls hX
    ⟨by rw [oz]; exact hS.1, fun q1 g1 g2 => by
      rw [oq q1 (fun e => g2 (by rw [e]; exact hbA))]
      exact hS.2.1 q1 g1 g2, fun q1 hq1 => by
      rcases List.mem_append.mp hq1 with h | h
      · exact hS.2.2 q1 h
      · obtain ⟨z, -, hz⟩ := List.mem_map.mp h
        rw [← hz]
        exact hbA⟩
    (hW.put hb (show (H.setIfInBounds (mj_ad Γ b) _)[mj_ad Γ b]? = some _ by simp [Array.getElem?_setIfInBounds, hl]) oz oq) hL hN9
  obtain ⟨t, a1, b1⟩ := kk _ hheap X'
  exact ⟨t, step t a1, b1⟩
end MJ10b
