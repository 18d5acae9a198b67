/-! what the constructors make -/
/-- a constructor of the object o, w cells being there, has made m more -/
def mj_cg (S S' : mj_S) (o w m : Nat) : Prop := S'.2.1 = w + m ∧ S'.2.2 = w + m ∧ ∀ j, j < w → j ≠ o → S'.1 j = S.1 j
section MK0
variable {Γ : mj_G} {d d1 : Nat} {M M1 : mj_M} {k n pc mc ms : Nat} {lv st : List Value} {S : mj_S} {P : mj_O → mj_S → Prop} {Qv : mj_S → Prop} {y : MethodName}
theorem mz_newo {idx ci w : Nat} {q : vw_C} {fs : List Value} (hd : decode M.cc pc = .ok (.new idx, 3)) (hq : mj_cl[ci]? = some q) (hw1 : (Cond.classLink M.own idx q.1) ∈ mj_tb) (hw2 : (Cond.instantiable q.1 q.2.2) ∈ mj_tb) (hw3 : (Cond.initialized q.1) ∈ mj_tb)
    (hfs : ∀ j, j < q.2.2 → defaultValue (mj_t ci j) = vp_V fs j) (hnr : fs.all (fun v => match v with | .ref _ => false | _ => true) = true) (hS1 : S.2.1 = w) (hS2 : S.2.2 = w) (hwl : w < 1000) (hk : 1 ≤ k) (hn : q.2.2 ≤ n)
    (h : ∀ S1 : mj_S, S1.2.1 = w + 1 → S1.2.2 = w + 1 → S1.1 w = .inr (ci, fs) → (∀ j, j ≠ w → S1.1 j = S.1 j) → mj_Ok Γ d M (k - 1) (n - q.2.2) (pc + 3) lv (.ref w :: st) S1 P) : mj_Ok Γ d M k n pc lv st S P := by
  have w0 := h (mj_push S (.inr (ci, fs))) (by show S.2.1 + 1 = _; rw [hS1]) (by show S.2.2 + 1 = _; rw [hS2]) (by show va_up S.1 S.2.1 _ w = _; rw [hS1, va_up_self]) (fun j hj => by show va_up S.1 S.2.1 _ j = _; rw [hS1, va_up_ne _ _ hj])
  have w1 := mj_new (k := k - 1) (n := n - q.2.2) hd hq hw1 hw2 hw3 hfs hnr (by rw [hS1, hS2]) (by rw [hS1]; show w < 1000000; omega) (by rw [hS1]; exact w0)
  rw [show k - 1 + 1 = k by omega, show n - q.2.2 + q.2.2 = n by omega] at w1
  exact w1
theorem mz_newA {atype : ArrayType} {t N w : Nat} (hd : decode M.cc pc = .ok (.newarray atype, 2)) (hty : newarray.typeOf atype = mj_at t) (ht : (mj_tys Γ)[t]? = some (Γ.cA t, mj_at t)) (hw : (Cond.arrayClass (mj_at t)) ∈ mj_tb) (hN : N < 100000) (hb : N * componentBytes (mj_at t) ≤ 536870912 ∧ defaultValue (mj_at t) = .int 0)
    (hS1 : S.2.1 = w) (hS2 : S.2.2 = w) (hwl : w < 1000) (hk : 1 ≤ k) (hn : N ≤ n)
    (h : ∀ S1 : mj_S, S1.2.1 = w + 1 → S1.2.2 = w + 1 → S1.1 w = .inl (t, N, .inl (mj_z fun _ => 0)) → (∀ j, j ≠ w → S1.1 j = S.1 j) → mj_Ok Γ d M (k - 1) (n - N) (pc + 2) lv (.ref w :: st) S1 P) : mj_Ok Γ d M k n pc lv (.int (iZ (N : Int)) :: st) S P := by
  have w0 := h (mj_push S (.inl (t, N, .inl (mj_z fun _ => 0)))) (by show S.2.1 + 1 = _; rw [hS1]) (by show S.2.2 + 1 = _; rw [hS2]) (by show va_up S.1 S.2.1 _ w = _; rw [hS1, va_up_self]) (fun j hj => by show va_up S.1 S.2.1 _ j = _; rw [hS1, va_up_ne _ _ hj])
  have w1 := mj_newa (k := k - 1) (n := n - N) (i := iZ (N : Int)) (a0 := (N, .inl (mj_z fun _ => 0))) hd hty ht hw rfl hN hb.1 (fun cA => by rw [vp_cell_i, hb.2]; rfl) (by rw [hS1, hS2]) (by rw [hS1]; show w < 1000000; omega) (by rw [hS1]; exact w0)
  rw [show k - 1 + 1 = k by omega, show n - N + N = n by omega] at w1
  exact w1
theorem mz_ctor {idx a : Nat} (hd : decode M.cc pc = .ok (.invokespecial idx, 3)) (hM : mj_Met Γ d1 y M1 (.ref a :: []) S mc ms (mj_V Qv)) (hcw : mj_cw y M1 0) (hw : Cond.methodLink M.own idx y ∈ mj_tb ∧ Cond.instanceMethod y ∈ mj_tb ∧ y.name = "<init>") (hrn : M1.ret = none)
    (hd1 : d1 < d) (hst : Nat.ble (st.map fun v => v.category).sum 8 = true) (hk0 : mc ≤ k) (hn0 : ms ≤ n)
    (hk : ∀ S1 : mj_S, Qv S1 → mj_Ok Γ d M (k - mc) (n - ms) (pc + 3) lv st S1 P) : mj_Ok Γ d M k n pc lv (.ref a :: st) S P := by
  have w := mz_callI0v (k := k - mc) (n := n - ms) hd hM hcw hw hrn hd1 hst hk
  rw [show k - mc + mc = k by omega, show n - ms + ms = n by omega] at w
  exact w
theorem mz_ctorN {idx a : Nat} (hd : decode M.cc pc = .ok (.invokespecial idx, 3)) (hM : mj_Met Γ d1 y M1 (.ref a :: []) S mc ms (mj_V Qv)) (hcw : mj_cw y M1 0) (hw : Cond.methodLinkNest M.own idx y "IsomerList" ∈ lw_tbl ∧ Cond.instanceMethod y ∈ mj_tb ∧ y.name = "<init>") (hrn : M1.ret = none)
    (hd1 : d1 < d) (hst : Nat.ble (st.map fun v => v.category).sum 8 = true) (hk0 : mc ≤ k) (hn0 : ms ≤ n)
    (hk : ∀ S1 : mj_S, Qv S1 → mj_Ok Γ d M (k - mc) (n - ms) (pc + 3) lv st S1 P) : mj_Ok Γ d M k n pc lv (.ref a :: st) S P := by
  have w := mz_callIN0v (k := k - mc) (n := n - ms) hd hM hcw hw hrn hd1 hst hk
  rw [show k - mc + mc = k by omega, show n - ms + ms = n by omega] at w
  exact w
theorem mz_ctor2 {idx a : Nat} {v1 v2 : Value} (hd : decode M.cc pc = .ok (.invokespecial idx, 3)) (hM : mj_Met Γ d1 y M1 (.ref a :: [v1, v2]) S mc ms (mj_V Qv)) (hcw : mj_cw y M1 2) (hw : Cond.methodLink M.own idx y ∈ mj_tb ∧ Cond.instanceMethod y ∈ mj_tb ∧ y.name = "<init>") (hrn : M1.ret = none)
    (hd1 : d1 < d) (hst : Nat.ble (st.map fun v => v.category).sum 8 = true) (hk0 : mc ≤ k) (hn0 : ms ≤ n)
    (hk : ∀ S1 : mj_S, Qv S1 → mj_Ok Γ d M (k - mc) (n - ms) (pc + 3) lv st S1 P) : mj_Ok Γ d M k n pc lv (v2 :: v1 :: .ref a :: st) S P := by
  have w : mj_Ok Γ d M (k - mc + mc) (n - ms + ms) pc lv (v2 :: v1 :: .ref a :: st) S P := mj_callI (As := [v1, v2]) (k := k - mc) (n := n - ms) hd hM hcw hw hrn hd1 hst (fun r S1 ⟨e, q⟩ => by subst e; exact hk S1 q)
  rw [show k - mc + mc = k by omega, show n - ms + ms = n by omega] at w
  exact w
end MK0
theorem nw_Lw_8 : Cond.classLink "IsomerListLaw" 8 "IsomerList" ∈ mj_tb := mj_mem 77 (by decide +kernel) (by decide +kernel)
theorem nw_IL_7 : Cond.classLink "IsomerList" 7 "IsomerList$Line" ∈ mj_tb := mj_mem 85 (by decide +kernel) (by decide +kernel)
theorem nw_IL_16 : Cond.classLink "IsomerList" 16 "IsomerList$FormulaReader" ∈ mj_tb := mj_mem 102 (by decide +kernel) (by decide +kernel)
theorem nw_IL_23 : Cond.classLink "IsomerList" 23 "IsomerList$TextReader" ∈ mj_tb := mj_mem 118 (by decide +kernel) (by decide +kernel)
theorem nw_Tr_9 : Cond.classLink "IsomerList$TextReader" 9 "IsomerList$Molecule" ∈ mj_tb := mj_mem 124 (by decide +kernel) (by decide +kernel)
theorem nw_IL_30 : Cond.classLink "IsomerList" 30 "IsomerList$Numbering" ∈ mj_tb := mj_mem 181 (by decide +kernel) (by decide +kernel)
theorem nw_IL_37 : Cond.classLink "IsomerList" 37 "IsomerList$Molecule" ∈ mj_tb := mj_mem 206 (by decide +kernel) (by decide +kernel)
theorem nw_IL_44 : Cond.classLink "IsomerList" 44 "IsomerList$TextWriter" ∈ mj_tb := mj_mem 208 (by decide +kernel) (by decide +kernel)
theorem nw_IL_53 : Cond.classLink "IsomerList" 53 "IsomerList$Catalogue" ∈ mj_tb := mj_mem 233 (by decide +kernel) (by decide +kernel)
theorem nw_IL_63 : Cond.classLink "IsomerList" 63 "IsomerList$Lister" ∈ mj_tb := mj_mem 264 (by decide +kernel) (by decide +kernel)
theorem nw_Ls_9 : Cond.classLink "IsomerList$Lister" 9 "IsomerList$Molecule" ∈ mj_tb := mj_mem 270 (by decide +kernel) (by decide +kernel)
theorem nw_Lw_36 : Cond.classLink "IsomerListLaw" 36 "IsomerListModel" ∈ mj_tb := mj_mem 755 (by decide +kernel) (by decide +kernel)
theorem ia_IL : Cond.instantiable "IsomerList" 10 ∈ mj_tb := mj_mem 78 (by decide +kernel) (by decide +kernel)
theorem ia_Ln : Cond.instantiable "IsomerList$Line" 2 ∈ mj_tb := mj_mem 86 (by decide +kernel) (by decide +kernel)
theorem ia_Fr : Cond.instantiable "IsomerList$FormulaReader" 2 ∈ mj_tb := mj_mem 103 (by decide +kernel) (by decide +kernel)
theorem ia_Tr : Cond.instantiable "IsomerList$TextReader" 8 ∈ mj_tb := mj_mem 119 (by decide +kernel) (by decide +kernel)
theorem ia_Ml : Cond.instantiable "IsomerList$Molecule" 4 ∈ mj_tb := mj_mem 125 (by decide +kernel) (by decide +kernel)
theorem ia_Tw : Cond.instantiable "IsomerList$TextWriter" 6 ∈ mj_tb := mj_mem 209 (by decide +kernel) (by decide +kernel)
theorem ia_Nu : Cond.instantiable "IsomerList$Numbering" 5 ∈ mj_tb := mj_mem 182 (by decide +kernel) (by decide +kernel)
theorem ia_Ls : Cond.instantiable "IsomerList$Lister" 5 ∈ mj_tb := mj_mem 265 (by decide +kernel) (by decide +kernel)
theorem ia_Ca : Cond.instantiable "IsomerList$Catalogue" 5 ∈ mj_tb := mj_mem 234 (by decide +kernel) (by decide +kernel)
theorem ia_Mo : Cond.instantiable "IsomerListModel" 33 ∈ mj_tb := mj_mem 756 (by decide +kernel) (by decide +kernel)
theorem ac_I : Cond.arrayClass .int ∈ mj_tb := mj_mem 117 (by decide +kernel) (by decide +kernel)
theorem ac_C : Cond.arrayClass .char ∈ mj_tb := mj_mem 101 (by decide +kernel) (by decide +kernel)
theorem ac_Z : Cond.arrayClass .boolean ∈ mj_tb := mj_mem 205 (by decide +kernel) (by decide +kernel)
theorem ac_J : Cond.arrayClass .long ∈ mj_tb := mj_mem 1034 (by decide +kernel) (by decide +kernel)
theorem oi_IL : Cond.methodLink "IsomerList" 1 objectInit ∈ mj_tb := mj_mem 82 (by decide +kernel) (by decide +kernel)
theorem oi_Ln : Cond.methodLink "IsomerList$Line" 3 objectInit ∈ mj_tb := mj_mem 90 (by decide +kernel) (by decide +kernel)
theorem oi_Fr : Cond.methodLink "IsomerList$FormulaReader" 3 objectInit ∈ mj_tb := mj_mem 107 (by decide +kernel) (by decide +kernel)
theorem oi_Tr : Cond.methodLink "IsomerList$TextReader" 3 objectInit ∈ mj_tb := mj_mem 123 (by decide +kernel) (by decide +kernel)
theorem oi_Ml : Cond.methodLink "IsomerList$Molecule" 3 objectInit ∈ mj_tb := mj_mem 129 (by decide +kernel) (by decide +kernel)
theorem oi_Tw : Cond.methodLink "IsomerList$TextWriter" 3 objectInit ∈ mj_tb := mj_mem 213 (by decide +kernel) (by decide +kernel)
theorem oi_Nu : Cond.methodLink "IsomerList$Numbering" 3 objectInit ∈ mj_tb := mj_mem 186 (by decide +kernel) (by decide +kernel)
theorem oi_Ls : Cond.methodLink "IsomerList$Lister" 3 objectInit ∈ mj_tb := mj_mem 269 (by decide +kernel) (by decide +kernel)
theorem oi_Ca : Cond.methodLink "IsomerList$Catalogue" 3 objectInit ∈ mj_tb := mj_mem 238 (by decide +kernel) (by decide +kernel)
theorem oi_Mo : Cond.methodLink "IsomerListModel" 1 objectInit ∈ mj_tb := mj_mem 760 (by decide +kernel) (by decide +kernel)
theorem oi_m : Cond.instanceMethod objectInit ∈ mj_tb := mj_mem 83 (by decide +kernel) (by decide +kernel)
theorem oi_c : Cond.code objectInit ⟨#[0xb1]⟩ 1 none ∈ mj_tb := mj_mem 84 (by decide +kernel) (by decide +kernel)
theorem mj_obj_IL : Cond.methodLink (M_IL_init).own 1 objectInit ∈ mj_tb ∧ Cond.instanceMethod objectInit ∈ mj_tb ∧ Cond.code objectInit ⟨#[0xb1]⟩ 1 none ∈ mj_tb := ⟨oi_IL, oi_m, oi_c⟩
theorem mj_obj_Ln : Cond.methodLink (M_Ln_init).own 3 objectInit ∈ mj_tb ∧ Cond.instanceMethod objectInit ∈ mj_tb ∧ Cond.code objectInit ⟨#[0xb1]⟩ 1 none ∈ mj_tb := ⟨oi_Ln, oi_m, oi_c⟩
theorem mj_obj_Fr : Cond.methodLink (M_Fr_init).own 3 objectInit ∈ mj_tb ∧ Cond.instanceMethod objectInit ∈ mj_tb ∧ Cond.code objectInit ⟨#[0xb1]⟩ 1 none ∈ mj_tb := ⟨oi_Fr, oi_m, oi_c⟩
theorem mj_obj_Tr : Cond.methodLink (M_Tr_init).own 3 objectInit ∈ mj_tb ∧ Cond.instanceMethod objectInit ∈ mj_tb ∧ Cond.code objectInit ⟨#[0xb1]⟩ 1 none ∈ mj_tb := ⟨oi_Tr, oi_m, oi_c⟩
theorem mj_obj_Ml : Cond.methodLink (M_Ml_init).own 3 objectInit ∈ mj_tb ∧ Cond.instanceMethod objectInit ∈ mj_tb ∧ Cond.code objectInit ⟨#[0xb1]⟩ 1 none ∈ mj_tb := ⟨oi_Ml, oi_m, oi_c⟩
theorem mj_obj_Tw : Cond.methodLink (M_Tw_init).own 3 objectInit ∈ mj_tb ∧ Cond.instanceMethod objectInit ∈ mj_tb ∧ Cond.code objectInit ⟨#[0xb1]⟩ 1 none ∈ mj_tb := ⟨oi_Tw, oi_m, oi_c⟩
theorem mj_obj_Nu : Cond.methodLink (M_Nu_init).own 3 objectInit ∈ mj_tb ∧ Cond.instanceMethod objectInit ∈ mj_tb ∧ Cond.code objectInit ⟨#[0xb1]⟩ 1 none ∈ mj_tb := ⟨oi_Nu, oi_m, oi_c⟩
theorem mj_obj_Ls : Cond.methodLink (M_Ls_init).own 3 objectInit ∈ mj_tb ∧ Cond.instanceMethod objectInit ∈ mj_tb ∧ Cond.code objectInit ⟨#[0xb1]⟩ 1 none ∈ mj_tb := ⟨oi_Ls, oi_m, oi_c⟩
theorem mj_obj_Ca : Cond.methodLink (M_Ca_init).own 3 objectInit ∈ mj_tb ∧ Cond.instanceMethod objectInit ∈ mj_tb ∧ Cond.code objectInit ⟨#[0xb1]⟩ 1 none ∈ mj_tb := ⟨oi_Ca, oi_m, oi_c⟩
theorem mj_obj_Mo : Cond.methodLink (M_Mo_init).own 1 objectInit ∈ mj_tb ∧ Cond.instanceMethod objectInit ∈ mj_tb ∧ Cond.code objectInit ⟨#[0xb1]⟩ 1 none ∈ mj_tb := ⟨oi_Mo, oi_m, oi_c⟩
section MK
variable {Γ : mj_G} {d : Nat}
theorem m_Ln_init {o w : Nat} {S : mj_S} (hS1 : S.2.1 = w) (hS2 : S.2.2 = w) (ho : o < w) (hwl : w < 500) (he : S.1 o = .inr (1, [.null, .int (iZ 0)])) (hd : 1 ≤ d) : mj_Met Γ d y_Ln_init M_Ln_init [.ref o] S 1 60 (mj_V fun S' => mj_cg S S' o w 1 ∧ S'.1 o = .inr (1, [.ref w, .int (iZ 0)]) ∧ S'.1 (w) = .inl (1, 60, .inl (mj_z fun _ => 0))) := by
  refine mj_Met.of (by decide) ⟨rfl, rfl⟩ rfl rfl rfl ?_
  refine mj_aload_n d_Ln_init_0 rfl ?_
  refine mj_objInit d_Ln_init_1 mj_obj_Ln (by omega) rfl ?_
  refine mj_aload_n d_Ln_init_4 rfl ?_
  refine mz_bipush d_Ln_init_5 (by decide) ?_
  refine mz_newA (t := 1) (N := 60) (w := w) d_Ln_init_7 rfl rfl ac_C (by decide) (by decide) hS1 hS2 (by omega) (by decide) (by decide) (fun S_7 a_7 b_7 r_0 q_7 => ?_)
  have he := (q_7 o (by omega)).trans he
  have fr : ∀ j, j < w → j ≠ o → S_7.1 j = S.1 j := fun j h1 h2 => (q_7 j (by omega))
  have a_7 : S_7.2.1 = w + 1 := a_7.trans (by omega)
  have b_7 : S_7.2.2 = w + 1 := b_7.trans (by omega)
  refine mz_putF (ci := 1) (j := 0) d_Ln_init_9 rfl w_Ln_9 (by decide) ⟨rfl, rfl, wl_Ln_9⟩ (by omega) he (Nat.le_of_ble_eq_true rfl) (⟨rfl, rfl⟩) rfl (fun S_9 a_9 e_9 f_9 => ?_)
  have r_0 := f_9.at r_0 (by simp; omega)
  have fr : ∀ j, j < w → j ≠ o → S_9.1 j = S.1 j := fun j h1 h2 => (f_9.2 j (by simp; omega)).trans (fr j h1 h2)
  have b_9 : S_9.2.2 = w + 1 := (congrArg Prod.snd f_9.1).trans b_7
  have a_9 : S_9.2.1 = w + 1 := a_9.trans a_7
  refine mz_vret d_Ln_init_12 rfl ?_
  exact ⟨⟨a_9, b_9, fr⟩, e_9, r_0⟩
theorem m_Fr_init {o w : Nat} {S : mj_S} (hS1 : S.2.1 = w) (hS2 : S.2.2 = w) (ho : o < w) (hwl : w < 500) (he : S.1 o = .inr (2, [.null, .int (iZ 0)])) (hd : 1 ≤ d) : mj_Met Γ d y_Fr_init M_Fr_init [.ref o] S 1 10 (mj_V fun S' => mj_cg S S' o w 1 ∧ S'.1 o = .inr (2, [.ref w, .int (iZ 0)]) ∧ S'.1 (w) = .inl (0, 10, .inl (mj_z fun _ => 0))) := by
  refine mj_Met.of (by decide) ⟨rfl, rfl⟩ rfl rfl rfl ?_
  refine mj_aload_n d_Fr_init_0 rfl ?_
  refine mj_objInit d_Fr_init_1 mj_obj_Fr (by omega) rfl ?_
  refine mj_aload_n d_Fr_init_4 rfl ?_
  refine mz_bipush d_Fr_init_5 (by decide) ?_
  refine mz_newA (t := 0) (N := 10) (w := w) d_Fr_init_7 rfl rfl ac_I (by decide) (by decide) hS1 hS2 (by omega) (by decide) (by decide) (fun S_7 a_7 b_7 r_0 q_7 => ?_)
  have he := (q_7 o (by omega)).trans he
  have fr : ∀ j, j < w → j ≠ o → S_7.1 j = S.1 j := fun j h1 h2 => (q_7 j (by omega))
  have a_7 : S_7.2.1 = w + 1 := a_7.trans (by omega)
  have b_7 : S_7.2.2 = w + 1 := b_7.trans (by omega)
  refine mz_putF (ci := 2) (j := 0) d_Fr_init_9 rfl w_Fr_9 (by decide) ⟨rfl, rfl, wl_Fr_9⟩ (by omega) he (Nat.le_of_ble_eq_true rfl) (⟨rfl, rfl⟩) rfl (fun S_9 a_9 e_9 f_9 => ?_)
  have r_0 := f_9.at r_0 (by simp; omega)
  have fr : ∀ j, j < w → j ≠ o → S_9.1 j = S.1 j := fun j h1 h2 => (f_9.2 j (by simp; omega)).trans (fr j h1 h2)
  have b_9 : S_9.2.2 = w + 1 := (congrArg Prod.snd f_9.1).trans b_7
  have a_9 : S_9.2.1 = w + 1 := a_9.trans a_7
  refine mz_vret d_Fr_init_12 rfl ?_
  exact ⟨⟨a_9, b_9, fr⟩, e_9, r_0⟩
theorem m_Ml_init {o w : Nat} {S : mj_S} (hS1 : S.2.1 = w) (hS2 : S.2.2 = w) (ho : o < w) (hwl : w < 500) (he : S.1 o = .inr (4, [.null, .null, .null, .int (iZ 0)])) (hd : 1 ≤ d) : mj_Met Γ d y_Ml_init M_Ml_init [.ref o] S 3 48 (mj_V fun S' => mj_cg S S' o w 3 ∧ S'.1 o = .inr (4, [.ref w, .ref (w + 1), .ref (w + 2), .int (iZ 0)]) ∧ S'.1 (w) = .inl (0, 6, .inl (mj_z fun _ => 0)) ∧ S'.1 (w + 1) = .inl (0, 6, .inl (mj_z fun _ => 0)) ∧ S'.1 (w + 2) = .inl (0, 36, .inl (mj_z fun _ => 0))) := by
  refine mj_Met.of (by decide) ⟨rfl, rfl⟩ rfl rfl rfl ?_
  refine mj_aload_n d_Ml_init_0 rfl ?_
  refine mj_objInit d_Ml_init_1 mj_obj_Ml (by omega) rfl ?_
  refine mj_aload_n d_Ml_init_4 rfl ?_
  refine mz_bipush d_Ml_init_5 (by decide) ?_
  refine mz_newA (t := 0) (N := 6) (w := w) d_Ml_init_7 rfl rfl ac_I (by decide) (by decide) hS1 hS2 (by omega) (by decide) (by decide) (fun S_7 a_7 b_7 r_0 q_7 => ?_)
  have he := (q_7 o (by omega)).trans he
  have fr : ∀ j, j < w → j ≠ o → S_7.1 j = S.1 j := fun j h1 h2 => (q_7 j (by omega))
  have a_7 : S_7.2.1 = w + 1 := a_7.trans (by omega)
  have b_7 : S_7.2.2 = w + 1 := b_7.trans (by omega)
  refine mz_putF (ci := 4) (j := 0) d_Ml_init_9 rfl w_Ml_9 (by decide) ⟨rfl, rfl, wl_Ml_9⟩ (by omega) he (Nat.le_of_ble_eq_true rfl) (⟨rfl, rfl⟩) rfl (fun S_9 a_9 e_9 f_9 => ?_)
  have r_0 := f_9.at r_0 (by simp; omega)
  have fr : ∀ j, j < w → j ≠ o → S_9.1 j = S.1 j := fun j h1 h2 => (f_9.2 j (by simp; omega)).trans (fr j h1 h2)
  have b_9 : S_9.2.2 = w + 1 := (congrArg Prod.snd f_9.1).trans b_7
  have a_9 : S_9.2.1 = w + 1 := a_9.trans a_7
  refine mj_aload_n d_Ml_init_12 rfl ?_
  refine mz_bipush d_Ml_init_13 (by decide) ?_
  refine mz_newA (t := 0) (N := 6) (w := w + 1) d_Ml_init_15 rfl rfl ac_I (by decide) (by decide) a_9 b_9 (by omega) (by decide) (by decide) (fun S_15 a_15 b_15 r_1 q_15 => ?_)
  have e_9 := (q_15 o (by omega)).trans e_9
  have r_0 := (q_15 (w) (by omega)).trans r_0
  have fr : ∀ j, j < w → j ≠ o → S_15.1 j = S.1 j := fun j h1 h2 => (q_15 j (by omega)).trans (fr j h1 h2)
  have a_15 : S_15.2.1 = w + 2 := a_15.trans (by omega)
  have b_15 : S_15.2.2 = w + 2 := b_15.trans (by omega)
  refine mz_putF (ci := 4) (j := 1) d_Ml_init_17 rfl w_Ml_15 (by decide) ⟨rfl, rfl, wl_Ml_15⟩ (by omega) e_9 (Nat.le_of_ble_eq_true rfl) (⟨rfl, rfl⟩) rfl (fun S_17 a_17 e_17 f_17 => ?_)
  have r_0 := f_17.at r_0 (by simp; omega)
  have r_1 := f_17.at r_1 (by simp; omega)
  have fr : ∀ j, j < w → j ≠ o → S_17.1 j = S.1 j := fun j h1 h2 => (f_17.2 j (by simp; omega)).trans (fr j h1 h2)
  have b_17 : S_17.2.2 = w + 2 := (congrArg Prod.snd f_17.1).trans b_15
  have a_17 : S_17.2.1 = w + 2 := a_17.trans a_15
  refine mj_aload_n d_Ml_init_20 rfl ?_
  refine mz_bipush d_Ml_init_21 (by decide) ?_
  refine mz_newA (t := 0) (N := 36) (w := w + 2) d_Ml_init_23 rfl rfl ac_I (by decide) (by decide) a_17 b_17 (by omega) (by decide) (by decide) (fun S_23 a_23 b_23 r_2 q_23 => ?_)
  have e_17 := (q_23 o (by omega)).trans e_17
  have r_0 := (q_23 (w) (by omega)).trans r_0
  have r_1 := (q_23 (w + 1) (by omega)).trans r_1
  have fr : ∀ j, j < w → j ≠ o → S_23.1 j = S.1 j := fun j h1 h2 => (q_23 j (by omega)).trans (fr j h1 h2)
  have a_23 : S_23.2.1 = w + 3 := a_23.trans (by omega)
  have b_23 : S_23.2.2 = w + 3 := b_23.trans (by omega)
  refine mz_putF (ci := 4) (j := 2) d_Ml_init_25 rfl w_Ml_18 (by decide) ⟨rfl, rfl, wl_Ml_18⟩ (by omega) e_17 (Nat.le_of_ble_eq_true rfl) (⟨rfl, rfl⟩) rfl (fun S_25 a_25 e_25 f_25 => ?_)
  have r_0 := f_25.at r_0 (by simp; omega)
  have r_1 := f_25.at r_1 (by simp; omega)
  have r_2 := f_25.at r_2 (by simp; omega)
  have fr : ∀ j, j < w → j ≠ o → S_25.1 j = S.1 j := fun j h1 h2 => (f_25.2 j (by simp; omega)).trans (fr j h1 h2)
  have b_25 : S_25.2.2 = w + 3 := (congrArg Prod.snd f_25.1).trans b_23
  have a_25 : S_25.2.1 = w + 3 := a_25.trans a_23
  refine mz_vret d_Ml_init_28 rfl ?_
  exact ⟨⟨a_25, b_25, fr⟩, e_25, r_0, r_1, r_2⟩
theorem m_Nu_init {o w : Nat} {S : mj_S} (hS1 : S.2.1 = w) (hS2 : S.2.2 = w) (ho : o < w) (hwl : w < 500) (he : S.1 o = .inr (6, [.null, .null, .int (iZ 0), .int (iZ 0), .int (iZ 0)])) (hd : 1 ≤ d) : mj_Met Γ d y_Nu_init M_Nu_init [.ref o] S 2 12 (mj_V fun S' => mj_cg S S' o w 2 ∧ S'.1 o = .inr (6, [.ref w, .ref (w + 1), .int (iZ 0), .int (iZ 0), .int (iZ 0)]) ∧ S'.1 (w) = .inl (0, 6, .inl (mj_z fun _ => 0)) ∧ S'.1 (w + 1) = .inl (2, 6, .inl (mj_z fun _ => 0))) := by
  refine mj_Met.of (by decide) ⟨rfl, rfl⟩ rfl rfl rfl ?_
  refine mj_aload_n d_Nu_init_0 rfl ?_
  refine mj_objInit d_Nu_init_1 mj_obj_Nu (by omega) rfl ?_
  refine mj_aload_n d_Nu_init_4 rfl ?_
  refine mz_bipush d_Nu_init_5 (by decide) ?_
  refine mz_newA (t := 0) (N := 6) (w := w) d_Nu_init_7 rfl rfl ac_I (by decide) (by decide) hS1 hS2 (by omega) (by decide) (by decide) (fun S_7 a_7 b_7 r_0 q_7 => ?_)
  have he := (q_7 o (by omega)).trans he
  have fr : ∀ j, j < w → j ≠ o → S_7.1 j = S.1 j := fun j h1 h2 => (q_7 j (by omega))
  have a_7 : S_7.2.1 = w + 1 := a_7.trans (by omega)
  have b_7 : S_7.2.2 = w + 1 := b_7.trans (by omega)
  refine mz_putF (ci := 6) (j := 0) d_Nu_init_9 rfl w_Nu_9 (by decide) ⟨rfl, rfl, wl_Nu_9⟩ (by omega) he (Nat.le_of_ble_eq_true rfl) (⟨rfl, rfl⟩) rfl (fun S_9 a_9 e_9 f_9 => ?_)
  have r_0 := f_9.at r_0 (by simp; omega)
  have fr : ∀ j, j < w → j ≠ o → S_9.1 j = S.1 j := fun j h1 h2 => (f_9.2 j (by simp; omega)).trans (fr j h1 h2)
  have b_9 : S_9.2.2 = w + 1 := (congrArg Prod.snd f_9.1).trans b_7
  have a_9 : S_9.2.1 = w + 1 := a_9.trans a_7
  refine mj_aload_n d_Nu_init_12 rfl ?_
  refine mz_bipush d_Nu_init_13 (by decide) ?_
  refine mz_newA (t := 2) (N := 6) (w := w + 1) d_Nu_init_15 rfl rfl ac_Z (by decide) (by decide) a_9 b_9 (by omega) (by decide) (by decide) (fun S_15 a_15 b_15 r_1 q_15 => ?_)
  have e_9 := (q_15 o (by omega)).trans e_9
  have r_0 := (q_15 (w) (by omega)).trans r_0
  have fr : ∀ j, j < w → j ≠ o → S_15.1 j = S.1 j := fun j h1 h2 => (q_15 j (by omega)).trans (fr j h1 h2)
  have a_15 : S_15.2.1 = w + 2 := a_15.trans (by omega)
  have b_15 : S_15.2.2 = w + 2 := b_15.trans (by omega)
  refine mz_putF (ci := 6) (j := 1) d_Nu_init_17 rfl w_Nu_15 (by decide) ⟨rfl, rfl, wl_Nu_15⟩ (by omega) e_9 (Nat.le_of_ble_eq_true rfl) (⟨rfl, rfl⟩) rfl (fun S_17 a_17 e_17 f_17 => ?_)
  have r_0 := f_17.at r_0 (by simp; omega)
  have r_1 := f_17.at r_1 (by simp; omega)
  have fr : ∀ j, j < w → j ≠ o → S_17.1 j = S.1 j := fun j h1 h2 => (f_17.2 j (by simp; omega)).trans (fr j h1 h2)
  have b_17 : S_17.2.2 = w + 2 := (congrArg Prod.snd f_17.1).trans b_15
  have a_17 : S_17.2.1 = w + 2 := a_17.trans a_15
  refine mz_vret d_Nu_init_20 rfl ?_
  exact ⟨⟨a_17, b_17, fr⟩, e_17, r_0, r_1⟩
theorem m_Ca_init {o w : Nat} {S : mj_S} (hS1 : S.2.1 = w) (hS2 : S.2.2 = w) (ho : o < w) (hwl : w < 500) (he : S.1 o = .inr (8, [.null, .null, .int (iZ 0), .int (iZ 0), .int (iZ 0)])) (hd : 1 ≤ d) : mj_Met Γ d y_Ca_init M_Ca_init [.ref o] S 2 506 (mj_V fun S' => mj_cg S S' o w 2 ∧ S'.1 o = .inr (8, [.ref w, .ref (w + 1), .int (iZ 0), .int (iZ 0), .int (iZ 0)]) ∧ S'.1 (w) = .inl (0, 6, .inl (mj_z fun _ => 0)) ∧ S'.1 (w + 1) = .inl (0, 500, .inl (mj_z fun _ => 0))) := by
  refine mj_Met.of (by decide) ⟨rfl, rfl⟩ rfl rfl rfl ?_
  refine mj_aload_n d_Ca_init_0 rfl ?_
  refine mj_objInit d_Ca_init_1 mj_obj_Ca (by omega) rfl ?_
  refine mj_aload_n d_Ca_init_4 rfl ?_
  refine mz_bipush d_Ca_init_5 (by decide) ?_
  refine mz_newA (t := 0) (N := 6) (w := w) d_Ca_init_7 rfl rfl ac_I (by decide) (by decide) hS1 hS2 (by omega) (by decide) (by decide) (fun S_7 a_7 b_7 r_0 q_7 => ?_)
  have he := (q_7 o (by omega)).trans he
  have fr : ∀ j, j < w → j ≠ o → S_7.1 j = S.1 j := fun j h1 h2 => (q_7 j (by omega))
  have a_7 : S_7.2.1 = w + 1 := a_7.trans (by omega)
  have b_7 : S_7.2.2 = w + 1 := b_7.trans (by omega)
  refine mz_putF (ci := 8) (j := 0) d_Ca_init_9 rfl w_Ca_9 (by decide) ⟨rfl, rfl, wl_Ca_9⟩ (by omega) he (Nat.le_of_ble_eq_true rfl) (⟨rfl, rfl⟩) rfl (fun S_9 a_9 e_9 f_9 => ?_)
  have r_0 := f_9.at r_0 (by simp; omega)
  have fr : ∀ j, j < w → j ≠ o → S_9.1 j = S.1 j := fun j h1 h2 => (f_9.2 j (by simp; omega)).trans (fr j h1 h2)
  have b_9 : S_9.2.2 = w + 1 := (congrArg Prod.snd f_9.1).trans b_7
  have a_9 : S_9.2.1 = w + 1 := a_9.trans a_7
  refine mj_aload_n d_Ca_init_12 rfl ?_
  refine mz_sipush d_Ca_init_13 (by decide) ?_
  refine mz_newA (t := 0) (N := 500) (w := w + 1) d_Ca_init_16 rfl rfl ac_I (by decide) (by decide) a_9 b_9 (by omega) (by decide) (by decide) (fun S_16 a_16 b_16 r_1 q_16 => ?_)
  have e_9 := (q_16 o (by omega)).trans e_9
  have r_0 := (q_16 (w) (by omega)).trans r_0
  have fr : ∀ j, j < w → j ≠ o → S_16.1 j = S.1 j := fun j h1 h2 => (q_16 j (by omega)).trans (fr j h1 h2)
  have a_16 : S_16.2.1 = w + 2 := a_16.trans (by omega)
  have b_16 : S_16.2.2 = w + 2 := b_16.trans (by omega)
  refine mz_putF (ci := 8) (j := 1) d_Ca_init_18 rfl w_Ca_15 (by decide) ⟨rfl, rfl, wl_Ca_15⟩ (by omega) e_9 (Nat.le_of_ble_eq_true rfl) (⟨rfl, rfl⟩) rfl (fun S_18 a_18 e_18 f_18 => ?_)
  have r_0 := f_18.at r_0 (by simp; omega)
  have r_1 := f_18.at r_1 (by simp; omega)
  have fr : ∀ j, j < w → j ≠ o → S_18.1 j = S.1 j := fun j h1 h2 => (f_18.2 j (by simp; omega)).trans (fr j h1 h2)
  have b_18 : S_18.2.2 = w + 2 := (congrArg Prod.snd f_18.1).trans b_16
  have a_18 : S_18.2.1 = w + 2 := a_18.trans a_16
  refine mz_vret d_Ca_init_21 rfl ?_
  exact ⟨⟨a_18, b_18, fr⟩, e_18, r_0, r_1⟩
theorem m_Tr_init {S : mj_S} (hS1 : S.2.1 = 6) (hS2 : S.2.2 = 6) (he : S.1 5 = .inr (3, [.null, .null, .null, .null, .int (iZ 0), .int (iZ 0), .int (iZ 0), .int (iZ 0)])) (hd : 2 ≤ d) : mj_Met Γ d y_Tr_init M_Tr_init [.ref 5] S 7 78 (mj_V fun S' => mj_cg S S' 5 6 7 ∧ S'.1 5 = .inr (3, [.ref 6, .ref 10, .ref 11, .ref 12, .int (iZ 0), .int (iZ 0), .int (iZ 0), .int (iZ 0)]) ∧ S'.1 6 = .inr (4, [.ref 7, .ref 8, .ref 9, .int (iZ 0)]) ∧ S'.1 7 = .inl (0, 6, .inl (mj_z fun _ => 0)) ∧ S'.1 8 = .inl (0, 6, .inl (mj_z fun _ => 0)) ∧ S'.1 9 = .inl (0, 36, .inl (mj_z fun _ => 0)) ∧ S'.1 10 = .inl (0, 10, .inl (mj_z fun _ => 0)) ∧ S'.1 11 = .inl (0, 10, .inl (mj_z fun _ => 0)) ∧ S'.1 12 = .inl (0, 6, .inl (mj_z fun _ => 0))) := by
  refine mj_Met.of (by decide) ⟨rfl, rfl⟩ rfl rfl rfl ?_
  refine mj_aload_n d_Tr_init_0 rfl ?_
  refine mj_objInit d_Tr_init_1 mj_obj_Tr (by omega) rfl ?_
  refine mj_aload_n d_Tr_init_4 rfl ?_
  refine mz_newo (ci := 4) (w := 6) (fs := [.null, .null, .null, .int (iZ 0)]) d_Tr_init_5 rfl nw_Tr_9 ia_Ml ini_Ml (by decide +kernel) rfl hS1 hS2 (by decide) (by decide) (by decide) (fun S_5 a_5 b_5 r_6 q_5 => ?_)
  have he := (q_5 5 (by decide)).trans he
  have fr : ∀ j, j < 6 → j ≠ 5 → S_5.1 j = S.1 j := fun j h1 h2 => (q_5 j (Nat.ne_of_lt (Nat.lt_of_lt_of_le h1 (by decide))))
  have a_5 : S_5.2.1 = 7 := a_5
  have b_5 : S_5.2.2 = 7 := b_5
  refine mj_dup d_Tr_init_8 rfl ?_
  refine mz_ctorN d_Tr_init_9 (m_Ml_init (d := 1) (o := 6) (w := 7) a_5 b_5 (by decide) (by decide) r_6 (by omega)) cw_Ml_init lk_Tr_11 rfl (by omega) rfl (by decide) (by decide) (fun S_9 h_9 => ?_)
  obtain ⟨⟨a_9, b_9, q_9⟩, r_6, r_7, r_8, r_9⟩ := h_9
  have he := (q_9 5 (by decide) (by decide)).trans he
  have fr : ∀ j, j < 6 → j ≠ 5 → S_9.1 j = S.1 j := fun j h1 h2 => (q_9 j (Nat.lt_of_lt_of_le h1 (by decide)) (Nat.ne_of_lt (Nat.lt_of_lt_of_le h1 (by decide)))).trans (fr j h1 h2)
  have a_9 : S_9.2.1 = 10 := a_9
  have b_9 : S_9.2.2 = 10 := b_9
  refine mz_putF (ci := 3) (j := 0) d_Tr_init_12 rfl w_Tr_12 (by decide) ⟨rfl, rfl, wl_Tr_12⟩ (by rw [a_9]; decide) he (Nat.le_of_ble_eq_true rfl) (⟨rfl, rfl⟩) rfl (fun S_12 a_12 e_12 f_12 => ?_)
  have r_6 := f_12.at r_6 (by decide)
  have r_7 := f_12.at r_7 (by decide)
  have r_8 := f_12.at r_8 (by decide)
  have r_9 := f_12.at r_9 (by decide)
  have fr : ∀ j, j < 6 → j ≠ 5 → S_12.1 j = S.1 j := fun j h1 h2 => (f_12.2 j (fun hj => h2 (List.mem_singleton.mp hj))).trans (fr j h1 h2)
  have b_12 : S_12.2.2 = 10 := (congrArg Prod.snd f_12.1).trans b_9
  have a_12 : S_12.2.1 = 10 := a_12.trans a_9
  refine mj_aload_n d_Tr_init_15 rfl ?_
  refine mz_bipush d_Tr_init_16 (by decide) ?_
  refine mz_newA (t := 0) (N := 10) (w := 10) d_Tr_init_18 rfl rfl ac_I (by decide) (by decide) a_12 b_12 (by decide) (by decide) (by decide) (fun S_18 a_18 b_18 r_10 q_18 => ?_)
  have e_12 := (q_18 5 (by decide)).trans e_12
  have r_6 := (q_18 6 (by decide)).trans r_6
  have r_7 := (q_18 7 (by decide)).trans r_7
  have r_8 := (q_18 8 (by decide)).trans r_8
  have r_9 := (q_18 9 (by decide)).trans r_9
  have fr : ∀ j, j < 6 → j ≠ 5 → S_18.1 j = S.1 j := fun j h1 h2 => (q_18 j (Nat.ne_of_lt (Nat.lt_of_lt_of_le h1 (by decide)))).trans (fr j h1 h2)
  have a_18 : S_18.2.1 = 11 := a_18
  have b_18 : S_18.2.2 = 11 := b_18
  refine mz_putF (ci := 3) (j := 1) d_Tr_init_20 rfl w_Tr_18 (by decide) ⟨rfl, rfl, wl_Tr_18⟩ (by rw [a_18]; decide) e_12 (Nat.le_of_ble_eq_true rfl) (⟨rfl, rfl⟩) rfl (fun S_20 a_20 e_20 f_20 => ?_)
  have r_6 := f_20.at r_6 (by decide)
  have r_7 := f_20.at r_7 (by decide)
  have r_8 := f_20.at r_8 (by decide)
  have r_9 := f_20.at r_9 (by decide)
  have r_10 := f_20.at r_10 (by decide)
  have fr : ∀ j, j < 6 → j ≠ 5 → S_20.1 j = S.1 j := fun j h1 h2 => (f_20.2 j (fun hj => h2 (List.mem_singleton.mp hj))).trans (fr j h1 h2)
  have b_20 : S_20.2.2 = 11 := (congrArg Prod.snd f_20.1).trans b_18
  have a_20 : S_20.2.1 = 11 := a_20.trans a_18
  refine mj_aload_n d_Tr_init_23 rfl ?_
  refine mz_bipush d_Tr_init_24 (by decide) ?_
  refine mz_newA (t := 0) (N := 10) (w := 11) d_Tr_init_26 rfl rfl ac_I (by decide) (by decide) a_20 b_20 (by decide) (by decide) (by decide) (fun S_26 a_26 b_26 r_11 q_26 => ?_)
  have e_20 := (q_26 5 (by decide)).trans e_20
  have r_6 := (q_26 6 (by decide)).trans r_6
  have r_7 := (q_26 7 (by decide)).trans r_7
  have r_8 := (q_26 8 (by decide)).trans r_8
  have r_9 := (q_26 9 (by decide)).trans r_9
  have r_10 := (q_26 10 (by decide)).trans r_10
  have fr : ∀ j, j < 6 → j ≠ 5 → S_26.1 j = S.1 j := fun j h1 h2 => (q_26 j (Nat.ne_of_lt (Nat.lt_of_lt_of_le h1 (by decide)))).trans (fr j h1 h2)
  have a_26 : S_26.2.1 = 12 := a_26
  have b_26 : S_26.2.2 = 12 := b_26
  refine mz_putF (ci := 3) (j := 2) d_Tr_init_28 rfl w_Tr_22 (by decide) ⟨rfl, rfl, wl_Tr_22⟩ (by rw [a_26]; decide) e_20 (Nat.le_of_ble_eq_true rfl) (⟨rfl, rfl⟩) rfl (fun S_28 a_28 e_28 f_28 => ?_)
  have r_6 := f_28.at r_6 (by decide)
  have r_7 := f_28.at r_7 (by decide)
  have r_8 := f_28.at r_8 (by decide)
  have r_9 := f_28.at r_9 (by decide)
  have r_10 := f_28.at r_10 (by decide)
  have r_11 := f_28.at r_11 (by decide)
  have fr : ∀ j, j < 6 → j ≠ 5 → S_28.1 j = S.1 j := fun j h1 h2 => (f_28.2 j (fun hj => h2 (List.mem_singleton.mp hj))).trans (fr j h1 h2)
  have b_28 : S_28.2.2 = 12 := (congrArg Prod.snd f_28.1).trans b_26
  have a_28 : S_28.2.1 = 12 := a_28.trans a_26
  refine mj_aload_n d_Tr_init_31 rfl ?_
  refine mz_bipush d_Tr_init_32 (by decide) ?_
  refine mz_newA (t := 0) (N := 6) (w := 12) d_Tr_init_34 rfl rfl ac_I (by decide) (by decide) a_28 b_28 (by decide) (by decide) (by decide) (fun S_34 a_34 b_34 r_12 q_34 => ?_)
  have e_28 := (q_34 5 (by decide)).trans e_28
  have r_6 := (q_34 6 (by decide)).trans r_6
  have r_7 := (q_34 7 (by decide)).trans r_7
  have r_8 := (q_34 8 (by decide)).trans r_8
  have r_9 := (q_34 9 (by decide)).trans r_9
  have r_10 := (q_34 10 (by decide)).trans r_10
  have r_11 := (q_34 11 (by decide)).trans r_11
  have fr : ∀ j, j < 6 → j ≠ 5 → S_34.1 j = S.1 j := fun j h1 h2 => (q_34 j (Nat.ne_of_lt (Nat.lt_of_lt_of_le h1 (by decide)))).trans (fr j h1 h2)
  have a_34 : S_34.2.1 = 13 := a_34
  have b_34 : S_34.2.2 = 13 := b_34
  refine mz_putF (ci := 3) (j := 3) d_Tr_init_36 rfl w_Tr_25 (by decide) ⟨rfl, rfl, wl_Tr_25⟩ (by rw [a_34]; decide) e_28 (Nat.le_of_ble_eq_true rfl) (⟨rfl, rfl⟩) rfl (fun S_36 a_36 e_36 f_36 => ?_)
  have r_6 := f_36.at r_6 (by decide)
  have r_7 := f_36.at r_7 (by decide)
  have r_8 := f_36.at r_8 (by decide)
  have r_9 := f_36.at r_9 (by decide)
  have r_10 := f_36.at r_10 (by decide)
  have r_11 := f_36.at r_11 (by decide)
  have r_12 := f_36.at r_12 (by decide)
  have fr : ∀ j, j < 6 → j ≠ 5 → S_36.1 j = S.1 j := fun j h1 h2 => (f_36.2 j (fun hj => h2 (List.mem_singleton.mp hj))).trans (fr j h1 h2)
  have b_36 : S_36.2.2 = 13 := (congrArg Prod.snd f_36.1).trans b_34
  have a_36 : S_36.2.1 = 13 := a_36.trans a_34
  refine mz_vret d_Tr_init_39 rfl ?_
  exact ⟨⟨a_36, b_36, fr⟩, e_36, r_6, r_7, r_8, r_9, r_10, r_11, r_12⟩
theorem m_Tw_init {S : mj_S} (hS1 : S.2.1 = 21) (hS2 : S.2.2 = 21) (he : S.1 20 = .inr (5, [.null, .null, .null, .null, .null, .int (iZ 0)])) (hd : 2 ≤ d) : mj_Met Γ d y_Tw_init M_Tw_init [.ref 20, .ref 1, .ref 16] S 3 26 (mj_V fun S' => mj_cg S S' 20 21 3 ∧ S'.1 20 = .inr (5, [.ref 21, .ref 22, .ref 23, .ref 1, .ref 16, .int (iZ 0)]) ∧ S'.1 21 = .inl (0, 6, .inl (mj_z fun _ => 0)) ∧ S'.1 22 = .inl (0, 10, .inl (mj_z fun _ => 0)) ∧ S'.1 23 = .inl (0, 10, .inl (mj_z fun _ => 0))) := by
  refine mj_Met.of (by decide) ⟨rfl, rfl⟩ rfl rfl rfl ?_
  refine mj_aload_n d_Tw_init_0 rfl ?_
  refine mj_objInit d_Tw_init_1 mj_obj_Tw (by omega) rfl ?_
  refine mj_aload_n d_Tw_init_4 rfl ?_
  refine mz_bipush d_Tw_init_5 (by decide) ?_
  refine mz_newA (t := 0) (N := 6) (w := 21) d_Tw_init_7 rfl rfl ac_I (by decide) (by decide) hS1 hS2 (by decide) (by decide) (by decide) (fun S_7 a_7 b_7 r_21 q_7 => ?_)
  have he := (q_7 20 (by decide)).trans he
  have fr : ∀ j, j < 21 → j ≠ 20 → S_7.1 j = S.1 j := fun j h1 h2 => (q_7 j (Nat.ne_of_lt (Nat.lt_of_lt_of_le h1 (by decide))))
  have a_7 : S_7.2.1 = 22 := a_7
  have b_7 : S_7.2.2 = 22 := b_7
  refine mz_putF (ci := 5) (j := 0) d_Tw_init_9 rfl w_Tw_9 (by decide) ⟨rfl, rfl, wl_Tw_9⟩ (by rw [a_7]; decide) he (Nat.le_of_ble_eq_true rfl) (⟨rfl, rfl⟩) rfl (fun S_9 a_9 e_9 f_9 => ?_)
  have r_21 := f_9.at r_21 (by decide)
  have fr : ∀ j, j < 21 → j ≠ 20 → S_9.1 j = S.1 j := fun j h1 h2 => (f_9.2 j (fun hj => h2 (List.mem_singleton.mp hj))).trans (fr j h1 h2)
  have b_9 : S_9.2.2 = 22 := (congrArg Prod.snd f_9.1).trans b_7
  have a_9 : S_9.2.1 = 22 := a_9.trans a_7
  refine mj_aload_n d_Tw_init_12 rfl ?_
  refine mz_bipush d_Tw_init_13 (by decide) ?_
  refine mz_newA (t := 0) (N := 10) (w := 22) d_Tw_init_15 rfl rfl ac_I (by decide) (by decide) a_9 b_9 (by decide) (by decide) (by decide) (fun S_15 a_15 b_15 r_22 q_15 => ?_)
  have e_9 := (q_15 20 (by decide)).trans e_9
  have r_21 := (q_15 21 (by decide)).trans r_21
  have fr : ∀ j, j < 21 → j ≠ 20 → S_15.1 j = S.1 j := fun j h1 h2 => (q_15 j (Nat.ne_of_lt (Nat.lt_of_lt_of_le h1 (by decide)))).trans (fr j h1 h2)
  have a_15 : S_15.2.1 = 23 := a_15
  have b_15 : S_15.2.2 = 23 := b_15
  refine mz_putF (ci := 5) (j := 1) d_Tw_init_17 rfl w_Tw_15 (by decide) ⟨rfl, rfl, wl_Tw_15⟩ (by rw [a_15]; decide) e_9 (Nat.le_of_ble_eq_true rfl) (⟨rfl, rfl⟩) rfl (fun S_17 a_17 e_17 f_17 => ?_)
  have r_21 := f_17.at r_21 (by decide)
  have r_22 := f_17.at r_22 (by decide)
  have fr : ∀ j, j < 21 → j ≠ 20 → S_17.1 j = S.1 j := fun j h1 h2 => (f_17.2 j (fun hj => h2 (List.mem_singleton.mp hj))).trans (fr j h1 h2)
  have b_17 : S_17.2.2 = 23 := (congrArg Prod.snd f_17.1).trans b_15
  have a_17 : S_17.2.1 = 23 := a_17.trans a_15
  refine mj_aload_n d_Tw_init_20 rfl ?_
  refine mz_bipush d_Tw_init_21 (by decide) ?_
  refine mz_newA (t := 0) (N := 10) (w := 23) d_Tw_init_23 rfl rfl ac_I (by decide) (by decide) a_17 b_17 (by decide) (by decide) (by decide) (fun S_23 a_23 b_23 r_23 q_23 => ?_)
  have e_17 := (q_23 20 (by decide)).trans e_17
  have r_21 := (q_23 21 (by decide)).trans r_21
  have r_22 := (q_23 22 (by decide)).trans r_22
  have fr : ∀ j, j < 21 → j ≠ 20 → S_23.1 j = S.1 j := fun j h1 h2 => (q_23 j (Nat.ne_of_lt (Nat.lt_of_lt_of_le h1 (by decide)))).trans (fr j h1 h2)
  have a_23 : S_23.2.1 = 24 := a_23
  have b_23 : S_23.2.2 = 24 := b_23
  refine mz_putF (ci := 5) (j := 2) d_Tw_init_25 rfl w_Tw_18 (by decide) ⟨rfl, rfl, wl_Tw_18⟩ (by rw [a_23]; decide) e_17 (Nat.le_of_ble_eq_true rfl) (⟨rfl, rfl⟩) rfl (fun S_25 a_25 e_25 f_25 => ?_)
  have r_21 := f_25.at r_21 (by decide)
  have r_22 := f_25.at r_22 (by decide)
  have r_23 := f_25.at r_23 (by decide)
  have fr : ∀ j, j < 21 → j ≠ 20 → S_25.1 j = S.1 j := fun j h1 h2 => (f_25.2 j (fun hj => h2 (List.mem_singleton.mp hj))).trans (fr j h1 h2)
  have b_25 : S_25.2.2 = 24 := (congrArg Prod.snd f_25.1).trans b_23
  have a_25 : S_25.2.1 = 24 := a_25.trans a_23
  refine mj_aload_n d_Tw_init_28 rfl ?_
  refine mj_aload_n d_Tw_init_29 rfl ?_
  refine mz_putF (ci := 5) (j := 3) d_Tw_init_30 rfl w_Tw_21 (by decide) ⟨rfl, rfl, wl_Tw_21⟩ (by rw [a_25]; decide) e_25 (Nat.le_of_ble_eq_true rfl) (⟨rfl, rfl⟩) rfl (fun S_30 a_30 e_30 f_30 => ?_)
  have r_21 := f_30.at r_21 (by decide)
  have r_22 := f_30.at r_22 (by decide)
  have r_23 := f_30.at r_23 (by decide)
  have fr : ∀ j, j < 21 → j ≠ 20 → S_30.1 j = S.1 j := fun j h1 h2 => (f_30.2 j (fun hj => h2 (List.mem_singleton.mp hj))).trans (fr j h1 h2)
  have b_30 : S_30.2.2 = 24 := (congrArg Prod.snd f_30.1).trans b_25
  have a_30 : S_30.2.1 = 24 := a_30.trans a_25
  refine mj_aload_n d_Tw_init_33 rfl ?_
  refine mj_aload_n d_Tw_init_34 rfl ?_
  refine mz_putF (ci := 5) (j := 4) d_Tw_init_35 rfl w_Tw_25 (by decide) ⟨rfl, rfl, wl_Tw_25⟩ (by rw [a_30]; decide) e_30 (Nat.le_of_ble_eq_true rfl) (⟨rfl, rfl⟩) rfl (fun S_35 a_35 e_35 f_35 => ?_)
  have r_21 := f_35.at r_21 (by decide)
  have r_22 := f_35.at r_22 (by decide)
  have r_23 := f_35.at r_23 (by decide)
  have fr : ∀ j, j < 21 → j ≠ 20 → S_35.1 j = S.1 j := fun j h1 h2 => (f_35.2 j (fun hj => h2 (List.mem_singleton.mp hj))).trans (fr j h1 h2)
  have b_35 : S_35.2.2 = 24 := (congrArg Prod.snd f_35.1).trans b_30
  have a_35 : S_35.2.1 = 24 := a_35.trans a_30
  refine mz_vret d_Tw_init_38 rfl ?_
  exact ⟨⟨a_35, b_35, fr⟩, e_35, r_21, r_22, r_23⟩
theorem m_Ls_init {S : mj_S} (hS1 : S.2.1 = 31) (hS2 : S.2.2 = 31) (he : S.1 30 = .inr (7, [.null, .null, .null, .null, .null])) (hd : 2 ≤ d) : mj_Met Γ d y_Ls_init M_Ls_init [.ref 30, .ref 13, .ref 27] S 6 65 (mj_V fun S' => mj_cg S S' 30 31 6 ∧ S'.1 30 = .inr (7, [.ref 13, .ref 27, .ref 31, .ref 35, .ref 36]) ∧ S'.1 31 = .inr (4, [.ref 32, .ref 33, .ref 34, .int (iZ 0)]) ∧ S'.1 32 = .inl (0, 6, .inl (mj_z fun _ => 0)) ∧ S'.1 33 = .inl (0, 6, .inl (mj_z fun _ => 0)) ∧ S'.1 34 = .inl (0, 36, .inl (mj_z fun _ => 0)) ∧ S'.1 35 = .inl (0, 7, .inl (mj_z fun _ => 0)) ∧ S'.1 36 = .inl (0, 6, .inl (mj_z fun _ => 0))) := by
  refine mj_Met.of (by decide) ⟨rfl, rfl⟩ rfl rfl rfl ?_
  refine mj_aload_n d_Ls_init_0 rfl ?_
  refine mj_objInit d_Ls_init_1 mj_obj_Ls (by omega) rfl ?_
  refine mj_aload_n d_Ls_init_4 rfl ?_
  refine mz_newo (ci := 4) (w := 31) (fs := [.null, .null, .null, .int (iZ 0)]) d_Ls_init_5 rfl nw_Ls_9 ia_Ml ini_Ml (by decide +kernel) rfl hS1 hS2 (by decide) (by decide) (by decide) (fun S_5 a_5 b_5 r_31 q_5 => ?_)
  have he := (q_5 30 (by decide)).trans he
  have fr : ∀ j, j < 31 → j ≠ 30 → S_5.1 j = S.1 j := fun j h1 h2 => (q_5 j (Nat.ne_of_lt (Nat.lt_of_lt_of_le h1 (by decide))))
  have a_5 : S_5.2.1 = 32 := a_5
  have b_5 : S_5.2.2 = 32 := b_5
  refine mj_dup d_Ls_init_8 rfl ?_
  refine mz_ctorN d_Ls_init_9 (m_Ml_init (d := 1) (o := 31) (w := 32) a_5 b_5 (by decide) (by decide) r_31 (by omega)) cw_Ml_init lk_Ls_11 rfl (by omega) rfl (by decide) (by decide) (fun S_9 h_9 => ?_)
  obtain ⟨⟨a_9, b_9, q_9⟩, r_31, r_32, r_33, r_34⟩ := h_9
  have he := (q_9 30 (by decide) (by decide)).trans he
  have fr : ∀ j, j < 31 → j ≠ 30 → S_9.1 j = S.1 j := fun j h1 h2 => (q_9 j (Nat.lt_of_lt_of_le h1 (by decide)) (Nat.ne_of_lt (Nat.lt_of_lt_of_le h1 (by decide)))).trans (fr j h1 h2)
  have a_9 : S_9.2.1 = 35 := a_9
  have b_9 : S_9.2.2 = 35 := b_9
  refine mz_putF (ci := 7) (j := 2) d_Ls_init_12 rfl w_Ls_12 (by decide) ⟨rfl, rfl, wl_Ls_12⟩ (by rw [a_9]; decide) he (Nat.le_of_ble_eq_true rfl) (⟨rfl, rfl⟩) rfl (fun S_12 a_12 e_12 f_12 => ?_)
  have r_31 := f_12.at r_31 (by decide)
  have r_32 := f_12.at r_32 (by decide)
  have r_33 := f_12.at r_33 (by decide)
  have r_34 := f_12.at r_34 (by decide)
  have fr : ∀ j, j < 31 → j ≠ 30 → S_12.1 j = S.1 j := fun j h1 h2 => (f_12.2 j (fun hj => h2 (List.mem_singleton.mp hj))).trans (fr j h1 h2)
  have b_12 : S_12.2.2 = 35 := (congrArg Prod.snd f_12.1).trans b_9
  have a_12 : S_12.2.1 = 35 := a_12.trans a_9
  refine mj_aload_n d_Ls_init_15 rfl ?_
  refine mz_bipush d_Ls_init_16 (by decide) ?_
  refine mz_newA (t := 0) (N := 7) (w := 35) d_Ls_init_18 rfl rfl ac_I (by decide) (by decide) a_12 b_12 (by decide) (by decide) (by decide) (fun S_18 a_18 b_18 r_35 q_18 => ?_)
  have e_12 := (q_18 30 (by decide)).trans e_12
  have r_31 := (q_18 31 (by decide)).trans r_31
  have r_32 := (q_18 32 (by decide)).trans r_32
  have r_33 := (q_18 33 (by decide)).trans r_33
  have r_34 := (q_18 34 (by decide)).trans r_34
  have fr : ∀ j, j < 31 → j ≠ 30 → S_18.1 j = S.1 j := fun j h1 h2 => (q_18 j (Nat.ne_of_lt (Nat.lt_of_lt_of_le h1 (by decide)))).trans (fr j h1 h2)
  have a_18 : S_18.2.1 = 36 := a_18
  have b_18 : S_18.2.2 = 36 := b_18
  refine mz_putF (ci := 7) (j := 3) d_Ls_init_20 rfl w_Ls_18 (by decide) ⟨rfl, rfl, wl_Ls_18⟩ (by rw [a_18]; decide) e_12 (Nat.le_of_ble_eq_true rfl) (⟨rfl, rfl⟩) rfl (fun S_20 a_20 e_20 f_20 => ?_)
  have r_31 := f_20.at r_31 (by decide)
  have r_32 := f_20.at r_32 (by decide)
  have r_33 := f_20.at r_33 (by decide)
  have r_34 := f_20.at r_34 (by decide)
  have r_35 := f_20.at r_35 (by decide)
  have fr : ∀ j, j < 31 → j ≠ 30 → S_20.1 j = S.1 j := fun j h1 h2 => (f_20.2 j (fun hj => h2 (List.mem_singleton.mp hj))).trans (fr j h1 h2)
  have b_20 : S_20.2.2 = 36 := (congrArg Prod.snd f_20.1).trans b_18
  have a_20 : S_20.2.1 = 36 := a_20.trans a_18
  refine mj_aload_n d_Ls_init_23 rfl ?_
  refine mz_bipush d_Ls_init_24 (by decide) ?_
  refine mz_newA (t := 0) (N := 6) (w := 36) d_Ls_init_26 rfl rfl ac_I (by decide) (by decide) a_20 b_20 (by decide) (by decide) (by decide) (fun S_26 a_26 b_26 r_36 q_26 => ?_)
  have e_20 := (q_26 30 (by decide)).trans e_20
  have r_31 := (q_26 31 (by decide)).trans r_31
  have r_32 := (q_26 32 (by decide)).trans r_32
  have r_33 := (q_26 33 (by decide)).trans r_33
  have r_34 := (q_26 34 (by decide)).trans r_34
  have r_35 := (q_26 35 (by decide)).trans r_35
  have fr : ∀ j, j < 31 → j ≠ 30 → S_26.1 j = S.1 j := fun j h1 h2 => (q_26 j (Nat.ne_of_lt (Nat.lt_of_lt_of_le h1 (by decide)))).trans (fr j h1 h2)
  have a_26 : S_26.2.1 = 37 := a_26
  have b_26 : S_26.2.2 = 37 := b_26
  refine mz_putF (ci := 7) (j := 4) d_Ls_init_28 rfl w_Ls_22 (by decide) ⟨rfl, rfl, wl_Ls_22⟩ (by rw [a_26]; decide) e_20 (Nat.le_of_ble_eq_true rfl) (⟨rfl, rfl⟩) rfl (fun S_28 a_28 e_28 f_28 => ?_)
  have r_31 := f_28.at r_31 (by decide)
  have r_32 := f_28.at r_32 (by decide)
  have r_33 := f_28.at r_33 (by decide)
  have r_34 := f_28.at r_34 (by decide)
  have r_35 := f_28.at r_35 (by decide)
  have r_36 := f_28.at r_36 (by decide)
  have fr : ∀ j, j < 31 → j ≠ 30 → S_28.1 j = S.1 j := fun j h1 h2 => (f_28.2 j (fun hj => h2 (List.mem_singleton.mp hj))).trans (fr j h1 h2)
  have b_28 : S_28.2.2 = 37 := (congrArg Prod.snd f_28.1).trans b_26
  have a_28 : S_28.2.1 = 37 := a_28.trans a_26
  refine mj_aload_n d_Ls_init_31 rfl ?_
  refine mj_aload_n d_Ls_init_32 rfl ?_
  refine mz_putF (ci := 7) (j := 0) d_Ls_init_33 rfl w_Ls_25 (by decide) ⟨rfl, rfl, wl_Ls_25⟩ (by rw [a_28]; decide) e_28 (Nat.le_of_ble_eq_true rfl) (⟨rfl, rfl⟩) rfl (fun S_33 a_33 e_33 f_33 => ?_)
  have r_31 := f_33.at r_31 (by decide)
  have r_32 := f_33.at r_32 (by decide)
  have r_33 := f_33.at r_33 (by decide)
  have r_34 := f_33.at r_34 (by decide)
  have r_35 := f_33.at r_35 (by decide)
  have r_36 := f_33.at r_36 (by decide)
  have fr : ∀ j, j < 31 → j ≠ 30 → S_33.1 j = S.1 j := fun j h1 h2 => (f_33.2 j (fun hj => h2 (List.mem_singleton.mp hj))).trans (fr j h1 h2)
  have b_33 : S_33.2.2 = 37 := (congrArg Prod.snd f_33.1).trans b_28
  have a_33 : S_33.2.1 = 37 := a_33.trans a_28
  refine mj_aload_n d_Ls_init_36 rfl ?_
  refine mj_aload_n d_Ls_init_37 rfl ?_
  refine mz_putF (ci := 7) (j := 1) d_Ls_init_38 rfl w_Ls_29 (by decide) ⟨rfl, rfl, wl_Ls_29⟩ (by rw [a_33]; decide) e_33 (Nat.le_of_ble_eq_true rfl) (⟨rfl, rfl⟩) rfl (fun S_38 a_38 e_38 f_38 => ?_)
  have r_31 := f_38.at r_31 (by decide)
  have r_32 := f_38.at r_32 (by decide)
  have r_33 := f_38.at r_33 (by decide)
  have r_34 := f_38.at r_34 (by decide)
  have r_35 := f_38.at r_35 (by decide)
  have r_36 := f_38.at r_36 (by decide)
  have fr : ∀ j, j < 31 → j ≠ 30 → S_38.1 j = S.1 j := fun j h1 h2 => (f_38.2 j (fun hj => h2 (List.mem_singleton.mp hj))).trans (fr j h1 h2)
  have b_38 : S_38.2.2 = 37 := (congrArg Prod.snd f_38.1).trans b_33
  have a_38 : S_38.2.1 = 37 := a_38.trans a_33
  refine mz_vret d_Ls_init_41 rfl ?_
  exact ⟨⟨a_38, b_38, fr⟩, e_38, r_31, r_32, r_33, r_34, r_35, r_36⟩
theorem m_IL_init {S : mj_S} (hS1 : S.2.1 = 1) (hS2 : S.2.2 = 1) (he : S.1 0 = .inr (0, [.null, .null, .null, .null, .null, .null, .null, .null, .null, .int (iZ 0)])) (hd : 3 ≤ d) : mj_Met Γ d y_IL_init M_IL_init [.ref 0] S 36 1353 (mj_V fun S' => mj_cg S S' 0 1 36 ∧ S'.1 0 = .inr (0, [.ref 1, .ref 3, .ref 5, .ref 20, .ref 13, .ref 30, .ref 16, .ref 24, .ref 27, .int (iZ (-1))]) ∧ S'.1 1 = .inr (1, [.ref 2, .int (iZ 0)]) ∧ S'.1 2 = .inl (1, 60, .inl (mj_z fun _ => 0)) ∧ S'.1 3 = .inr (2, [.ref 4, .int (iZ 0)]) ∧ S'.1 4 = .inl (0, 10, .inl (mj_z fun _ => 0)) ∧ S'.1 5 = .inr (3, [.ref 6, .ref 10, .ref 11, .ref 12, .int (iZ 0), .int (iZ 0), .int (iZ 0), .int (iZ 0)]) ∧ S'.1 6 = .inr (4, [.ref 7, .ref 8, .ref 9, .int (iZ 0)]) ∧ S'.1 7 = .inl (0, 6, .inl (mj_z fun _ => 0)) ∧ S'.1 8 = .inl (0, 6, .inl (mj_z fun _ => 0)) ∧ S'.1 9 = .inl (0, 36, .inl (mj_z fun _ => 0)) ∧ S'.1 10 = .inl (0, 10, .inl (mj_z fun _ => 0)) ∧ S'.1 11 = .inl (0, 10, .inl (mj_z fun _ => 0)) ∧ S'.1 12 = .inl (0, 6, .inl (mj_z fun _ => 0)) ∧ S'.1 13 = .inr (6, [.ref 14, .ref 15, .int (iZ 0), .int (iZ 0), .int (iZ 0)]) ∧ S'.1 14 = .inl (0, 6, .inl (mj_z fun _ => 0)) ∧ S'.1 15 = .inl (2, 6, .inl (mj_z fun _ => 0)) ∧ S'.1 16 = .inr (4, [.ref 17, .ref 18, .ref 19, .int (iZ 0)]) ∧ S'.1 17 = .inl (0, 6, .inl (mj_z fun _ => 0)) ∧ S'.1 18 = .inl (0, 6, .inl (mj_z fun _ => 0)) ∧ S'.1 19 = .inl (0, 36, .inl (mj_z fun _ => 0)) ∧ S'.1 20 = .inr (5, [.ref 21, .ref 22, .ref 23, .ref 1, .ref 16, .int (iZ 0)]) ∧ S'.1 21 = .inl (0, 6, .inl (mj_z fun _ => 0)) ∧ S'.1 22 = .inl (0, 10, .inl (mj_z fun _ => 0)) ∧ S'.1 23 = .inl (0, 10, .inl (mj_z fun _ => 0)) ∧ S'.1 24 = .inr (8, [.ref 25, .ref 26, .int (iZ 0), .int (iZ 0), .int (iZ 0)]) ∧ S'.1 25 = .inl (0, 6, .inl (mj_z fun _ => 0)) ∧ S'.1 26 = .inl (0, 500, .inl (mj_z fun _ => 0)) ∧ S'.1 27 = .inr (8, [.ref 28, .ref 29, .int (iZ 0), .int (iZ 0), .int (iZ 0)]) ∧ S'.1 28 = .inl (0, 6, .inl (mj_z fun _ => 0)) ∧ S'.1 29 = .inl (0, 500, .inl (mj_z fun _ => 0)) ∧ S'.1 30 = .inr (7, [.ref 13, .ref 27, .ref 31, .ref 35, .ref 36]) ∧ S'.1 31 = .inr (4, [.ref 32, .ref 33, .ref 34, .int (iZ 0)]) ∧ S'.1 32 = .inl (0, 6, .inl (mj_z fun _ => 0)) ∧ S'.1 33 = .inl (0, 6, .inl (mj_z fun _ => 0)) ∧ S'.1 34 = .inl (0, 36, .inl (mj_z fun _ => 0)) ∧ S'.1 35 = .inl (0, 7, .inl (mj_z fun _ => 0)) ∧ S'.1 36 = .inl (0, 6, .inl (mj_z fun _ => 0))) := by
  refine mj_Met.of (by decide) ⟨rfl, rfl⟩ rfl rfl rfl ?_
  refine mj_aload_n d_IL_init_0 rfl ?_
  refine mj_objInit d_IL_init_1 mj_obj_IL (by omega) rfl ?_
  refine mj_aload_n d_IL_init_4 rfl ?_
  refine mz_newo (ci := 1) (w := 1) (fs := [.null, .int (iZ 0)]) d_IL_init_5 rfl nw_IL_7 ia_Ln ini_Ln (by decide +kernel) rfl hS1 hS2 (by decide) (by decide) (by decide) (fun S_5 a_5 b_5 r_1 q_5 => ?_)
  have he := (q_5 0 (by decide)).trans he
  have fr : ∀ j, j < 1 → j ≠ 0 → S_5.1 j = S.1 j := fun j h1 h2 => (q_5 j (Nat.ne_of_lt (Nat.lt_of_lt_of_le h1 (by decide))))
  have a_5 : S_5.2.1 = 2 := a_5
  have b_5 : S_5.2.2 = 2 := b_5
  refine mj_dup d_IL_init_8 rfl ?_
  refine mz_ctorN d_IL_init_9 (m_Ln_init (d := 1) (o := 1) (w := 2) a_5 b_5 (by decide) (by decide) r_1 (by omega)) cw_Ln_init lk_IL_9 rfl (by omega) rfl (by decide) (by decide) (fun S_9 h_9 => ?_)
  obtain ⟨⟨a_9, b_9, q_9⟩, r_1, r_2⟩ := h_9
  have he := (q_9 0 (by decide) (by decide)).trans he
  have fr : ∀ j, j < 1 → j ≠ 0 → S_9.1 j = S.1 j := fun j h1 h2 => (q_9 j (Nat.lt_of_lt_of_le h1 (by decide)) (Nat.ne_of_lt (Nat.lt_of_lt_of_le h1 (by decide)))).trans (fr j h1 h2)
  have a_9 : S_9.2.1 = 3 := a_9
  have b_9 : S_9.2.2 = 3 := b_9
  refine mz_putF (ci := 0) (j := 0) d_IL_init_12 rfl w_IL_10 (by decide) ⟨rfl, rfl, wl_IL_10⟩ (by rw [a_9]; decide) he (Nat.le_of_ble_eq_true rfl) (⟨rfl, rfl⟩) rfl (fun S_12 a_12 e_12 f_12 => ?_)
  have r_1 := f_12.at r_1 (by decide)
  have r_2 := f_12.at r_2 (by decide)
  have fr : ∀ j, j < 1 → j ≠ 0 → S_12.1 j = S.1 j := fun j h1 h2 => (f_12.2 j (fun hj => h2 (List.mem_singleton.mp hj))).trans (fr j h1 h2)
  have b_12 : S_12.2.2 = 3 := (congrArg Prod.snd f_12.1).trans b_9
  have a_12 : S_12.2.1 = 3 := a_12.trans a_9
  refine mj_aload_n d_IL_init_15 rfl ?_
  refine mz_newo (ci := 2) (w := 3) (fs := [.null, .int (iZ 0)]) d_IL_init_16 rfl nw_IL_16 ia_Fr ini_Fr (by decide +kernel) rfl a_12 b_12 (by decide) (by decide) (by decide) (fun S_16 a_16 b_16 r_3 q_16 => ?_)
  have e_12 := (q_16 0 (by decide)).trans e_12
  have r_1 := (q_16 1 (by decide)).trans r_1
  have r_2 := (q_16 2 (by decide)).trans r_2
  have fr : ∀ j, j < 1 → j ≠ 0 → S_16.1 j = S.1 j := fun j h1 h2 => (q_16 j (Nat.ne_of_lt (Nat.lt_of_lt_of_le h1 (by decide)))).trans (fr j h1 h2)
  have a_16 : S_16.2.1 = 4 := a_16
  have b_16 : S_16.2.2 = 4 := b_16
  refine mj_dup d_IL_init_19 rfl ?_
  refine mz_ctorN d_IL_init_20 (m_Fr_init (d := 1) (o := 3) (w := 4) a_16 b_16 (by decide) (by decide) r_3 (by omega)) cw_Fr_init lk_IL_18 rfl (by omega) rfl (by decide) (by decide) (fun S_20 h_20 => ?_)
  obtain ⟨⟨a_20, b_20, q_20⟩, r_3, r_4⟩ := h_20
  have e_12 := (q_20 0 (by decide) (by decide)).trans e_12
  have r_1 := (q_20 1 (by decide) (by decide)).trans r_1
  have r_2 := (q_20 2 (by decide) (by decide)).trans r_2
  have fr : ∀ j, j < 1 → j ≠ 0 → S_20.1 j = S.1 j := fun j h1 h2 => (q_20 j (Nat.lt_of_lt_of_le h1 (by decide)) (Nat.ne_of_lt (Nat.lt_of_lt_of_le h1 (by decide)))).trans (fr j h1 h2)
  have a_20 : S_20.2.1 = 5 := a_20
  have b_20 : S_20.2.2 = 5 := b_20
  refine mz_putF (ci := 0) (j := 1) d_IL_init_23 rfl w_IL_19 (by decide) ⟨rfl, rfl, wl_IL_19⟩ (by rw [a_20]; decide) e_12 (Nat.le_of_ble_eq_true rfl) (⟨rfl, rfl⟩) rfl (fun S_23 a_23 e_23 f_23 => ?_)
  have r_1 := f_23.at r_1 (by decide)
  have r_2 := f_23.at r_2 (by decide)
  have r_3 := f_23.at r_3 (by decide)
  have r_4 := f_23.at r_4 (by decide)
  have fr : ∀ j, j < 1 → j ≠ 0 → S_23.1 j = S.1 j := fun j h1 h2 => (f_23.2 j (fun hj => h2 (List.mem_singleton.mp hj))).trans (fr j h1 h2)
  have b_23 : S_23.2.2 = 5 := (congrArg Prod.snd f_23.1).trans b_20
  have a_23 : S_23.2.1 = 5 := a_23.trans a_20
  refine mj_aload_n d_IL_init_26 rfl ?_
  refine mz_newo (ci := 3) (w := 5) (fs := [.null, .null, .null, .null, .int (iZ 0), .int (iZ 0), .int (iZ 0), .int (iZ 0)]) d_IL_init_27 rfl nw_IL_23 ia_Tr ini_Tr (by decide +kernel) rfl a_23 b_23 (by decide) (by decide) (by decide) (fun S_27 a_27 b_27 r_5 q_27 => ?_)
  have e_23 := (q_27 0 (by decide)).trans e_23
  have r_1 := (q_27 1 (by decide)).trans r_1
  have r_2 := (q_27 2 (by decide)).trans r_2
  have r_3 := (q_27 3 (by decide)).trans r_3
  have r_4 := (q_27 4 (by decide)).trans r_4
  have fr : ∀ j, j < 1 → j ≠ 0 → S_27.1 j = S.1 j := fun j h1 h2 => (q_27 j (Nat.ne_of_lt (Nat.lt_of_lt_of_le h1 (by decide)))).trans (fr j h1 h2)
  have a_27 : S_27.2.1 = 6 := a_27
  have b_27 : S_27.2.2 = 6 := b_27
  refine mj_dup d_IL_init_30 rfl ?_
  refine mz_ctorN d_IL_init_31 (m_Tr_init (d := 2) a_27 b_27 r_5 (by omega)) cw_Tr_init lk_IL_25 rfl (by omega) rfl (by decide) (by decide) (fun S_31 h_31 => ?_)
  obtain ⟨⟨a_31, b_31, q_31⟩, r_5, r_6, r_7, r_8, r_9, r_10, r_11, r_12⟩ := h_31
  have e_23 := (q_31 0 (by decide) (by decide)).trans e_23
  have r_1 := (q_31 1 (by decide) (by decide)).trans r_1
  have r_2 := (q_31 2 (by decide) (by decide)).trans r_2
  have r_3 := (q_31 3 (by decide) (by decide)).trans r_3
  have r_4 := (q_31 4 (by decide) (by decide)).trans r_4
  have fr : ∀ j, j < 1 → j ≠ 0 → S_31.1 j = S.1 j := fun j h1 h2 => (q_31 j (Nat.lt_of_lt_of_le h1 (by decide)) (Nat.ne_of_lt (Nat.lt_of_lt_of_le h1 (by decide)))).trans (fr j h1 h2)
  have a_31 : S_31.2.1 = 13 := a_31
  have b_31 : S_31.2.2 = 13 := b_31
  refine mz_putF (ci := 0) (j := 2) d_IL_init_34 rfl w_IL_26 (by decide) ⟨rfl, rfl, wl_IL_26⟩ (by rw [a_31]; decide) e_23 (Nat.le_of_ble_eq_true rfl) (⟨rfl, rfl⟩) rfl (fun S_34 a_34 e_34 f_34 => ?_)
  have r_1 := f_34.at r_1 (by decide)
  have r_2 := f_34.at r_2 (by decide)
  have r_3 := f_34.at r_3 (by decide)
  have r_4 := f_34.at r_4 (by decide)
  have r_5 := f_34.at r_5 (by decide)
  have r_6 := f_34.at r_6 (by decide)
  have r_7 := f_34.at r_7 (by decide)
  have r_8 := f_34.at r_8 (by decide)
  have r_9 := f_34.at r_9 (by decide)
  have r_10 := f_34.at r_10 (by decide)
  have r_11 := f_34.at r_11 (by decide)
  have r_12 := f_34.at r_12 (by decide)
  have fr : ∀ j, j < 1 → j ≠ 0 → S_34.1 j = S.1 j := fun j h1 h2 => (f_34.2 j (fun hj => h2 (List.mem_singleton.mp hj))).trans (fr j h1 h2)
  have b_34 : S_34.2.2 = 13 := (congrArg Prod.snd f_34.1).trans b_31
  have a_34 : S_34.2.1 = 13 := a_34.trans a_31
  refine mj_aload_n d_IL_init_37 rfl ?_
  refine mz_newo (ci := 6) (w := 13) (fs := [.null, .null, .int (iZ 0), .int (iZ 0), .int (iZ 0)]) d_IL_init_38 rfl nw_IL_30 ia_Nu ini_Nu (by decide +kernel) rfl a_34 b_34 (by decide) (by decide) (by decide) (fun S_38 a_38 b_38 r_13 q_38 => ?_)
  have e_34 := (q_38 0 (by decide)).trans e_34
  have r_1 := (q_38 1 (by decide)).trans r_1
  have r_2 := (q_38 2 (by decide)).trans r_2
  have r_3 := (q_38 3 (by decide)).trans r_3
  have r_4 := (q_38 4 (by decide)).trans r_4
  have r_5 := (q_38 5 (by decide)).trans r_5
  have r_6 := (q_38 6 (by decide)).trans r_6
  have r_7 := (q_38 7 (by decide)).trans r_7
  have r_8 := (q_38 8 (by decide)).trans r_8
  have r_9 := (q_38 9 (by decide)).trans r_9
  have r_10 := (q_38 10 (by decide)).trans r_10
  have r_11 := (q_38 11 (by decide)).trans r_11
  have r_12 := (q_38 12 (by decide)).trans r_12
  have fr : ∀ j, j < 1 → j ≠ 0 → S_38.1 j = S.1 j := fun j h1 h2 => (q_38 j (Nat.ne_of_lt (Nat.lt_of_lt_of_le h1 (by decide)))).trans (fr j h1 h2)
  have a_38 : S_38.2.1 = 14 := a_38
  have b_38 : S_38.2.2 = 14 := b_38
  refine mj_dup d_IL_init_41 rfl ?_
  refine mz_ctorN d_IL_init_42 (m_Nu_init (d := 1) (o := 13) (w := 14) a_38 b_38 (by decide) (by decide) r_13 (by omega)) cw_Nu_init lk_IL_32 rfl (by omega) rfl (by decide) (by decide) (fun S_42 h_42 => ?_)
  obtain ⟨⟨a_42, b_42, q_42⟩, r_13, r_14, r_15⟩ := h_42
  have e_34 := (q_42 0 (by decide) (by decide)).trans e_34
  have r_1 := (q_42 1 (by decide) (by decide)).trans r_1
  have r_2 := (q_42 2 (by decide) (by decide)).trans r_2
  have r_3 := (q_42 3 (by decide) (by decide)).trans r_3
  have r_4 := (q_42 4 (by decide) (by decide)).trans r_4
  have r_5 := (q_42 5 (by decide) (by decide)).trans r_5
  have r_6 := (q_42 6 (by decide) (by decide)).trans r_6
  have r_7 := (q_42 7 (by decide) (by decide)).trans r_7
  have r_8 := (q_42 8 (by decide) (by decide)).trans r_8
  have r_9 := (q_42 9 (by decide) (by decide)).trans r_9
  have r_10 := (q_42 10 (by decide) (by decide)).trans r_10
  have r_11 := (q_42 11 (by decide) (by decide)).trans r_11
  have r_12 := (q_42 12 (by decide) (by decide)).trans r_12
  have fr : ∀ j, j < 1 → j ≠ 0 → S_42.1 j = S.1 j := fun j h1 h2 => (q_42 j (Nat.lt_of_lt_of_le h1 (by decide)) (Nat.ne_of_lt (Nat.lt_of_lt_of_le h1 (by decide)))).trans (fr j h1 h2)
  have a_42 : S_42.2.1 = 16 := a_42
  have b_42 : S_42.2.2 = 16 := b_42
  refine mz_putF (ci := 0) (j := 4) d_IL_init_45 rfl w_IL_33 (by decide) ⟨rfl, rfl, wl_IL_33⟩ (by rw [a_42]; decide) e_34 (Nat.le_of_ble_eq_true rfl) (⟨rfl, rfl⟩) rfl (fun S_45 a_45 e_45 f_45 => ?_)
  have r_1 := f_45.at r_1 (by decide)
  have r_2 := f_45.at r_2 (by decide)
  have r_3 := f_45.at r_3 (by decide)
  have r_4 := f_45.at r_4 (by decide)
  have r_5 := f_45.at r_5 (by decide)
  have r_6 := f_45.at r_6 (by decide)
  have r_7 := f_45.at r_7 (by decide)
  have r_8 := f_45.at r_8 (by decide)
  have r_9 := f_45.at r_9 (by decide)
  have r_10 := f_45.at r_10 (by decide)
  have r_11 := f_45.at r_11 (by decide)
  have r_12 := f_45.at r_12 (by decide)
  have r_13 := f_45.at r_13 (by decide)
  have r_14 := f_45.at r_14 (by decide)
  have r_15 := f_45.at r_15 (by decide)
  have fr : ∀ j, j < 1 → j ≠ 0 → S_45.1 j = S.1 j := fun j h1 h2 => (f_45.2 j (fun hj => h2 (List.mem_singleton.mp hj))).trans (fr j h1 h2)
  have b_45 : S_45.2.2 = 16 := (congrArg Prod.snd f_45.1).trans b_42
  have a_45 : S_45.2.1 = 16 := a_45.trans a_42
  refine mj_aload_n d_IL_init_48 rfl ?_
  refine mz_newo (ci := 4) (w := 16) (fs := [.null, .null, .null, .int (iZ 0)]) d_IL_init_49 rfl nw_IL_37 ia_Ml ini_Ml (by decide +kernel) rfl a_45 b_45 (by decide) (by decide) (by decide) (fun S_49 a_49 b_49 r_16 q_49 => ?_)
  have e_45 := (q_49 0 (by decide)).trans e_45
  have r_1 := (q_49 1 (by decide)).trans r_1
  have r_2 := (q_49 2 (by decide)).trans r_2
  have r_3 := (q_49 3 (by decide)).trans r_3
  have r_4 := (q_49 4 (by decide)).trans r_4
  have r_5 := (q_49 5 (by decide)).trans r_5
  have r_6 := (q_49 6 (by decide)).trans r_6
  have r_7 := (q_49 7 (by decide)).trans r_7
  have r_8 := (q_49 8 (by decide)).trans r_8
  have r_9 := (q_49 9 (by decide)).trans r_9
  have r_10 := (q_49 10 (by decide)).trans r_10
  have r_11 := (q_49 11 (by decide)).trans r_11
  have r_12 := (q_49 12 (by decide)).trans r_12
  have r_13 := (q_49 13 (by decide)).trans r_13
  have r_14 := (q_49 14 (by decide)).trans r_14
  have r_15 := (q_49 15 (by decide)).trans r_15
  have fr : ∀ j, j < 1 → j ≠ 0 → S_49.1 j = S.1 j := fun j h1 h2 => (q_49 j (Nat.ne_of_lt (Nat.lt_of_lt_of_le h1 (by decide)))).trans (fr j h1 h2)
  have a_49 : S_49.2.1 = 17 := a_49
  have b_49 : S_49.2.2 = 17 := b_49
  refine mj_dup d_IL_init_52 rfl ?_
  refine mz_ctorN d_IL_init_53 (m_Ml_init (d := 1) (o := 16) (w := 17) a_49 b_49 (by decide) (by decide) r_16 (by omega)) cw_Ml_init lk_IL_39 rfl (by omega) rfl (by decide) (by decide) (fun S_53 h_53 => ?_)
  obtain ⟨⟨a_53, b_53, q_53⟩, r_16, r_17, r_18, r_19⟩ := h_53
  have e_45 := (q_53 0 (by decide) (by decide)).trans e_45
  have r_1 := (q_53 1 (by decide) (by decide)).trans r_1
  have r_2 := (q_53 2 (by decide) (by decide)).trans r_2
  have r_3 := (q_53 3 (by decide) (by decide)).trans r_3
  have r_4 := (q_53 4 (by decide) (by decide)).trans r_4
  have r_5 := (q_53 5 (by decide) (by decide)).trans r_5
  have r_6 := (q_53 6 (by decide) (by decide)).trans r_6
  have r_7 := (q_53 7 (by decide) (by decide)).trans r_7
  have r_8 := (q_53 8 (by decide) (by decide)).trans r_8
  have r_9 := (q_53 9 (by decide) (by decide)).trans r_9
  have r_10 := (q_53 10 (by decide) (by decide)).trans r_10
  have r_11 := (q_53 11 (by decide) (by decide)).trans r_11
  have r_12 := (q_53 12 (by decide) (by decide)).trans r_12
  have r_13 := (q_53 13 (by decide) (by decide)).trans r_13
  have r_14 := (q_53 14 (by decide) (by decide)).trans r_14
  have r_15 := (q_53 15 (by decide) (by decide)).trans r_15
  have fr : ∀ j, j < 1 → j ≠ 0 → S_53.1 j = S.1 j := fun j h1 h2 => (q_53 j (Nat.lt_of_lt_of_le h1 (by decide)) (Nat.ne_of_lt (Nat.lt_of_lt_of_le h1 (by decide)))).trans (fr j h1 h2)
  have a_53 : S_53.2.1 = 20 := a_53
  have b_53 : S_53.2.2 = 20 := b_53
  refine mz_putF (ci := 0) (j := 6) d_IL_init_56 rfl w_IL_40 (by decide) ⟨rfl, rfl, wl_IL_40⟩ (by rw [a_53]; decide) e_45 (Nat.le_of_ble_eq_true rfl) (⟨rfl, rfl⟩) rfl (fun S_56 a_56 e_56 f_56 => ?_)
  have r_1 := f_56.at r_1 (by decide)
  have r_2 := f_56.at r_2 (by decide)
  have r_3 := f_56.at r_3 (by decide)
  have r_4 := f_56.at r_4 (by decide)
  have r_5 := f_56.at r_5 (by decide)
  have r_6 := f_56.at r_6 (by decide)
  have r_7 := f_56.at r_7 (by decide)
  have r_8 := f_56.at r_8 (by decide)
  have r_9 := f_56.at r_9 (by decide)
  have r_10 := f_56.at r_10 (by decide)
  have r_11 := f_56.at r_11 (by decide)
  have r_12 := f_56.at r_12 (by decide)
  have r_13 := f_56.at r_13 (by decide)
  have r_14 := f_56.at r_14 (by decide)
  have r_15 := f_56.at r_15 (by decide)
  have r_16 := f_56.at r_16 (by decide)
  have r_17 := f_56.at r_17 (by decide)
  have r_18 := f_56.at r_18 (by decide)
  have r_19 := f_56.at r_19 (by decide)
  have fr : ∀ j, j < 1 → j ≠ 0 → S_56.1 j = S.1 j := fun j h1 h2 => (f_56.2 j (fun hj => h2 (List.mem_singleton.mp hj))).trans (fr j h1 h2)
  have b_56 : S_56.2.2 = 20 := (congrArg Prod.snd f_56.1).trans b_53
  have a_56 : S_56.2.1 = 20 := a_56.trans a_53
  refine mj_aload_n d_IL_init_59 rfl ?_
  refine mz_newo (ci := 5) (w := 20) (fs := [.null, .null, .null, .null, .null, .int (iZ 0)]) d_IL_init_60 rfl nw_IL_44 ia_Tw ini_Tw (by decide +kernel) rfl a_56 b_56 (by decide) (by decide) (by decide) (fun S_60 a_60 b_60 r_20 q_60 => ?_)
  have e_56 := (q_60 0 (by decide)).trans e_56
  have r_1 := (q_60 1 (by decide)).trans r_1
  have r_2 := (q_60 2 (by decide)).trans r_2
  have r_3 := (q_60 3 (by decide)).trans r_3
  have r_4 := (q_60 4 (by decide)).trans r_4
  have r_5 := (q_60 5 (by decide)).trans r_5
  have r_6 := (q_60 6 (by decide)).trans r_6
  have r_7 := (q_60 7 (by decide)).trans r_7
  have r_8 := (q_60 8 (by decide)).trans r_8
  have r_9 := (q_60 9 (by decide)).trans r_9
  have r_10 := (q_60 10 (by decide)).trans r_10
  have r_11 := (q_60 11 (by decide)).trans r_11
  have r_12 := (q_60 12 (by decide)).trans r_12
  have r_13 := (q_60 13 (by decide)).trans r_13
  have r_14 := (q_60 14 (by decide)).trans r_14
  have r_15 := (q_60 15 (by decide)).trans r_15
  have r_16 := (q_60 16 (by decide)).trans r_16
  have r_17 := (q_60 17 (by decide)).trans r_17
  have r_18 := (q_60 18 (by decide)).trans r_18
  have r_19 := (q_60 19 (by decide)).trans r_19
  have fr : ∀ j, j < 1 → j ≠ 0 → S_60.1 j = S.1 j := fun j h1 h2 => (q_60 j (Nat.ne_of_lt (Nat.lt_of_lt_of_le h1 (by decide)))).trans (fr j h1 h2)
  have a_60 : S_60.2.1 = 21 := a_60
  have b_60 : S_60.2.2 = 21 := b_60
  refine mj_dup d_IL_init_63 rfl ?_
  refine mj_aload_n d_IL_init_64 rfl ?_
  refine mj_get (ci := 0) (j := 0) d_IL_init_65 rfl w_IL_10 (by decide) (by rw [a_60]; decide) e_56 rfl ?_
  refine mj_aload_n d_IL_init_68 rfl ?_
  refine mj_get (ci := 0) (j := 6) d_IL_init_69 rfl w_IL_40 (by decide) (by rw [a_60]; decide) e_56 rfl ?_
  refine mz_ctor2 d_IL_init_72 (m_Tw_init (d := 2) a_60 b_60 r_20 (by omega)) cw_Tw_init lk_IL_46 rfl (by omega) rfl (by decide) (by decide) (fun S_72 h_72 => ?_)
  obtain ⟨⟨a_72, b_72, q_72⟩, r_20, r_21, r_22, r_23⟩ := h_72
  have e_56 := (q_72 0 (by decide) (by decide)).trans e_56
  have r_1 := (q_72 1 (by decide) (by decide)).trans r_1
  have r_2 := (q_72 2 (by decide) (by decide)).trans r_2
  have r_3 := (q_72 3 (by decide) (by decide)).trans r_3
  have r_4 := (q_72 4 (by decide) (by decide)).trans r_4
  have r_5 := (q_72 5 (by decide) (by decide)).trans r_5
  have r_6 := (q_72 6 (by decide) (by decide)).trans r_6
  have r_7 := (q_72 7 (by decide) (by decide)).trans r_7
  have r_8 := (q_72 8 (by decide) (by decide)).trans r_8
  have r_9 := (q_72 9 (by decide) (by decide)).trans r_9
  have r_10 := (q_72 10 (by decide) (by decide)).trans r_10
  have r_11 := (q_72 11 (by decide) (by decide)).trans r_11
  have r_12 := (q_72 12 (by decide) (by decide)).trans r_12
  have r_13 := (q_72 13 (by decide) (by decide)).trans r_13
  have r_14 := (q_72 14 (by decide) (by decide)).trans r_14
  have r_15 := (q_72 15 (by decide) (by decide)).trans r_15
  have r_16 := (q_72 16 (by decide) (by decide)).trans r_16
  have r_17 := (q_72 17 (by decide) (by decide)).trans r_17
  have r_18 := (q_72 18 (by decide) (by decide)).trans r_18
  have r_19 := (q_72 19 (by decide) (by decide)).trans r_19
  have fr : ∀ j, j < 1 → j ≠ 0 → S_72.1 j = S.1 j := fun j h1 h2 => (q_72 j (Nat.lt_of_lt_of_le h1 (by decide)) (Nat.ne_of_lt (Nat.lt_of_lt_of_le h1 (by decide)))).trans (fr j h1 h2)
  have a_72 : S_72.2.1 = 24 := a_72
  have b_72 : S_72.2.2 = 24 := b_72
  refine mz_putF (ci := 0) (j := 3) d_IL_init_75 rfl w_IL_49 (by decide) ⟨rfl, rfl, wl_IL_49⟩ (by rw [a_72]; decide) e_56 (Nat.le_of_ble_eq_true rfl) (⟨rfl, rfl⟩) rfl (fun S_75 a_75 e_75 f_75 => ?_)
  have r_1 := f_75.at r_1 (by decide)
  have r_2 := f_75.at r_2 (by decide)
  have r_3 := f_75.at r_3 (by decide)
  have r_4 := f_75.at r_4 (by decide)
  have r_5 := f_75.at r_5 (by decide)
  have r_6 := f_75.at r_6 (by decide)
  have r_7 := f_75.at r_7 (by decide)
  have r_8 := f_75.at r_8 (by decide)
  have r_9 := f_75.at r_9 (by decide)
  have r_10 := f_75.at r_10 (by decide)
  have r_11 := f_75.at r_11 (by decide)
  have r_12 := f_75.at r_12 (by decide)
  have r_13 := f_75.at r_13 (by decide)
  have r_14 := f_75.at r_14 (by decide)
  have r_15 := f_75.at r_15 (by decide)
  have r_16 := f_75.at r_16 (by decide)
  have r_17 := f_75.at r_17 (by decide)
  have r_18 := f_75.at r_18 (by decide)
  have r_19 := f_75.at r_19 (by decide)
  have r_20 := f_75.at r_20 (by decide)
  have r_21 := f_75.at r_21 (by decide)
  have r_22 := f_75.at r_22 (by decide)
  have r_23 := f_75.at r_23 (by decide)
  have fr : ∀ j, j < 1 → j ≠ 0 → S_75.1 j = S.1 j := fun j h1 h2 => (f_75.2 j (fun hj => h2 (List.mem_singleton.mp hj))).trans (fr j h1 h2)
  have b_75 : S_75.2.2 = 24 := (congrArg Prod.snd f_75.1).trans b_72
  have a_75 : S_75.2.1 = 24 := a_75.trans a_72
  refine mj_aload_n d_IL_init_78 rfl ?_
  refine mz_newo (ci := 8) (w := 24) (fs := [.null, .null, .int (iZ 0), .int (iZ 0), .int (iZ 0)]) d_IL_init_79 rfl nw_IL_53 ia_Ca ini_Ca (by decide +kernel) rfl a_75 b_75 (by decide) (by decide) (by decide) (fun S_79 a_79 b_79 r_24 q_79 => ?_)
  have e_75 := (q_79 0 (by decide)).trans e_75
  have r_1 := (q_79 1 (by decide)).trans r_1
  have r_2 := (q_79 2 (by decide)).trans r_2
  have r_3 := (q_79 3 (by decide)).trans r_3
  have r_4 := (q_79 4 (by decide)).trans r_4
  have r_5 := (q_79 5 (by decide)).trans r_5
  have r_6 := (q_79 6 (by decide)).trans r_6
  have r_7 := (q_79 7 (by decide)).trans r_7
  have r_8 := (q_79 8 (by decide)).trans r_8
  have r_9 := (q_79 9 (by decide)).trans r_9
  have r_10 := (q_79 10 (by decide)).trans r_10
  have r_11 := (q_79 11 (by decide)).trans r_11
  have r_12 := (q_79 12 (by decide)).trans r_12
  have r_13 := (q_79 13 (by decide)).trans r_13
  have r_14 := (q_79 14 (by decide)).trans r_14
  have r_15 := (q_79 15 (by decide)).trans r_15
  have r_16 := (q_79 16 (by decide)).trans r_16
  have r_17 := (q_79 17 (by decide)).trans r_17
  have r_18 := (q_79 18 (by decide)).trans r_18
  have r_19 := (q_79 19 (by decide)).trans r_19
  have r_20 := (q_79 20 (by decide)).trans r_20
  have r_21 := (q_79 21 (by decide)).trans r_21
  have r_22 := (q_79 22 (by decide)).trans r_22
  have r_23 := (q_79 23 (by decide)).trans r_23
  have fr : ∀ j, j < 1 → j ≠ 0 → S_79.1 j = S.1 j := fun j h1 h2 => (q_79 j (Nat.ne_of_lt (Nat.lt_of_lt_of_le h1 (by decide)))).trans (fr j h1 h2)
  have a_79 : S_79.2.1 = 25 := a_79
  have b_79 : S_79.2.2 = 25 := b_79
  refine mj_dup d_IL_init_82 rfl ?_
  refine mz_ctorN d_IL_init_83 (m_Ca_init (d := 1) (o := 24) (w := 25) a_79 b_79 (by decide) (by decide) r_24 (by omega)) cw_Ca_init lk_IL_55 rfl (by omega) rfl (by decide) (by decide) (fun S_83 h_83 => ?_)
  obtain ⟨⟨a_83, b_83, q_83⟩, r_24, r_25, r_26⟩ := h_83
  have e_75 := (q_83 0 (by decide) (by decide)).trans e_75
  have r_1 := (q_83 1 (by decide) (by decide)).trans r_1
  have r_2 := (q_83 2 (by decide) (by decide)).trans r_2
  have r_3 := (q_83 3 (by decide) (by decide)).trans r_3
  have r_4 := (q_83 4 (by decide) (by decide)).trans r_4
  have r_5 := (q_83 5 (by decide) (by decide)).trans r_5
  have r_6 := (q_83 6 (by decide) (by decide)).trans r_6
  have r_7 := (q_83 7 (by decide) (by decide)).trans r_7
  have r_8 := (q_83 8 (by decide) (by decide)).trans r_8
  have r_9 := (q_83 9 (by decide) (by decide)).trans r_9
  have r_10 := (q_83 10 (by decide) (by decide)).trans r_10
  have r_11 := (q_83 11 (by decide) (by decide)).trans r_11
  have r_12 := (q_83 12 (by decide) (by decide)).trans r_12
  have r_13 := (q_83 13 (by decide) (by decide)).trans r_13
  have r_14 := (q_83 14 (by decide) (by decide)).trans r_14
  have r_15 := (q_83 15 (by decide) (by decide)).trans r_15
  have r_16 := (q_83 16 (by decide) (by decide)).trans r_16
  have r_17 := (q_83 17 (by decide) (by decide)).trans r_17
  have r_18 := (q_83 18 (by decide) (by decide)).trans r_18
  have r_19 := (q_83 19 (by decide) (by decide)).trans r_19
  have r_20 := (q_83 20 (by decide) (by decide)).trans r_20
  have r_21 := (q_83 21 (by decide) (by decide)).trans r_21
  have r_22 := (q_83 22 (by decide) (by decide)).trans r_22
  have r_23 := (q_83 23 (by decide) (by decide)).trans r_23
  have fr : ∀ j, j < 1 → j ≠ 0 → S_83.1 j = S.1 j := fun j h1 h2 => (q_83 j (Nat.lt_of_lt_of_le h1 (by decide)) (Nat.ne_of_lt (Nat.lt_of_lt_of_le h1 (by decide)))).trans (fr j h1 h2)
  have a_83 : S_83.2.1 = 27 := a_83
  have b_83 : S_83.2.2 = 27 := b_83
  refine mz_putF (ci := 0) (j := 7) d_IL_init_86 rfl w_IL_56 (by decide) ⟨rfl, rfl, wl_IL_56⟩ (by rw [a_83]; decide) e_75 (Nat.le_of_ble_eq_true rfl) (⟨rfl, rfl⟩) rfl (fun S_86 a_86 e_86 f_86 => ?_)
  have r_1 := f_86.at r_1 (by decide)
  have r_2 := f_86.at r_2 (by decide)
  have r_3 := f_86.at r_3 (by decide)
  have r_4 := f_86.at r_4 (by decide)
  have r_5 := f_86.at r_5 (by decide)
  have r_6 := f_86.at r_6 (by decide)
  have r_7 := f_86.at r_7 (by decide)
  have r_8 := f_86.at r_8 (by decide)
  have r_9 := f_86.at r_9 (by decide)
  have r_10 := f_86.at r_10 (by decide)
  have r_11 := f_86.at r_11 (by decide)
  have r_12 := f_86.at r_12 (by decide)
  have r_13 := f_86.at r_13 (by decide)
  have r_14 := f_86.at r_14 (by decide)
  have r_15 := f_86.at r_15 (by decide)
  have r_16 := f_86.at r_16 (by decide)
  have r_17 := f_86.at r_17 (by decide)
  have r_18 := f_86.at r_18 (by decide)
  have r_19 := f_86.at r_19 (by decide)
  have r_20 := f_86.at r_20 (by decide)
  have r_21 := f_86.at r_21 (by decide)
  have r_22 := f_86.at r_22 (by decide)
  have r_23 := f_86.at r_23 (by decide)
  have r_24 := f_86.at r_24 (by decide)
  have r_25 := f_86.at r_25 (by decide)
  have r_26 := f_86.at r_26 (by decide)
  have fr : ∀ j, j < 1 → j ≠ 0 → S_86.1 j = S.1 j := fun j h1 h2 => (f_86.2 j (fun hj => h2 (List.mem_singleton.mp hj))).trans (fr j h1 h2)
  have b_86 : S_86.2.2 = 27 := (congrArg Prod.snd f_86.1).trans b_83
  have a_86 : S_86.2.1 = 27 := a_86.trans a_83
  refine mj_aload_n d_IL_init_89 rfl ?_
  refine mz_newo (ci := 8) (w := 27) (fs := [.null, .null, .int (iZ 0), .int (iZ 0), .int (iZ 0)]) d_IL_init_90 rfl nw_IL_53 ia_Ca ini_Ca (by decide +kernel) rfl a_86 b_86 (by decide) (by decide) (by decide) (fun S_90 a_90 b_90 r_27 q_90 => ?_)
  have e_86 := (q_90 0 (by decide)).trans e_86
  have r_1 := (q_90 1 (by decide)).trans r_1
  have r_2 := (q_90 2 (by decide)).trans r_2
  have r_3 := (q_90 3 (by decide)).trans r_3
  have r_4 := (q_90 4 (by decide)).trans r_4
  have r_5 := (q_90 5 (by decide)).trans r_5
  have r_6 := (q_90 6 (by decide)).trans r_6
  have r_7 := (q_90 7 (by decide)).trans r_7
  have r_8 := (q_90 8 (by decide)).trans r_8
  have r_9 := (q_90 9 (by decide)).trans r_9
  have r_10 := (q_90 10 (by decide)).trans r_10
  have r_11 := (q_90 11 (by decide)).trans r_11
  have r_12 := (q_90 12 (by decide)).trans r_12
  have r_13 := (q_90 13 (by decide)).trans r_13
  have r_14 := (q_90 14 (by decide)).trans r_14
  have r_15 := (q_90 15 (by decide)).trans r_15
  have r_16 := (q_90 16 (by decide)).trans r_16
  have r_17 := (q_90 17 (by decide)).trans r_17
  have r_18 := (q_90 18 (by decide)).trans r_18
  have r_19 := (q_90 19 (by decide)).trans r_19
  have r_20 := (q_90 20 (by decide)).trans r_20
  have r_21 := (q_90 21 (by decide)).trans r_21
  have r_22 := (q_90 22 (by decide)).trans r_22
  have r_23 := (q_90 23 (by decide)).trans r_23
  have r_24 := (q_90 24 (by decide)).trans r_24
  have r_25 := (q_90 25 (by decide)).trans r_25
  have r_26 := (q_90 26 (by decide)).trans r_26
  have fr : ∀ j, j < 1 → j ≠ 0 → S_90.1 j = S.1 j := fun j h1 h2 => (q_90 j (Nat.ne_of_lt (Nat.lt_of_lt_of_le h1 (by decide)))).trans (fr j h1 h2)
  have a_90 : S_90.2.1 = 28 := a_90
  have b_90 : S_90.2.2 = 28 := b_90
  refine mj_dup d_IL_init_93 rfl ?_
  refine mz_ctorN d_IL_init_94 (m_Ca_init (d := 1) (o := 27) (w := 28) a_90 b_90 (by decide) (by decide) r_27 (by omega)) cw_Ca_init lk_IL_55 rfl (by omega) rfl (by decide) (by decide) (fun S_94 h_94 => ?_)
  obtain ⟨⟨a_94, b_94, q_94⟩, r_27, r_28, r_29⟩ := h_94
  have e_86 := (q_94 0 (by decide) (by decide)).trans e_86
  have r_1 := (q_94 1 (by decide) (by decide)).trans r_1
  have r_2 := (q_94 2 (by decide) (by decide)).trans r_2
  have r_3 := (q_94 3 (by decide) (by decide)).trans r_3
  have r_4 := (q_94 4 (by decide) (by decide)).trans r_4
  have r_5 := (q_94 5 (by decide) (by decide)).trans r_5
  have r_6 := (q_94 6 (by decide) (by decide)).trans r_6
  have r_7 := (q_94 7 (by decide) (by decide)).trans r_7
  have r_8 := (q_94 8 (by decide) (by decide)).trans r_8
  have r_9 := (q_94 9 (by decide) (by decide)).trans r_9
  have r_10 := (q_94 10 (by decide) (by decide)).trans r_10
  have r_11 := (q_94 11 (by decide) (by decide)).trans r_11
  have r_12 := (q_94 12 (by decide) (by decide)).trans r_12
  have r_13 := (q_94 13 (by decide) (by decide)).trans r_13
  have r_14 := (q_94 14 (by decide) (by decide)).trans r_14
  have r_15 := (q_94 15 (by decide) (by decide)).trans r_15
  have r_16 := (q_94 16 (by decide) (by decide)).trans r_16
  have r_17 := (q_94 17 (by decide) (by decide)).trans r_17
  have r_18 := (q_94 18 (by decide) (by decide)).trans r_18
  have r_19 := (q_94 19 (by decide) (by decide)).trans r_19
  have r_20 := (q_94 20 (by decide) (by decide)).trans r_20
  have r_21 := (q_94 21 (by decide) (by decide)).trans r_21
  have r_22 := (q_94 22 (by decide) (by decide)).trans r_22
  have r_23 := (q_94 23 (by decide) (by decide)).trans r_23
  have r_24 := (q_94 24 (by decide) (by decide)).trans r_24
  have r_25 := (q_94 25 (by decide) (by decide)).trans r_25
  have r_26 := (q_94 26 (by decide) (by decide)).trans r_26
  have fr : ∀ j, j < 1 → j ≠ 0 → S_94.1 j = S.1 j := fun j h1 h2 => (q_94 j (Nat.lt_of_lt_of_le h1 (by decide)) (Nat.ne_of_lt (Nat.lt_of_lt_of_le h1 (by decide)))).trans (fr j h1 h2)
  have a_94 : S_94.2.1 = 30 := a_94
  have b_94 : S_94.2.2 = 30 := b_94
  refine mz_putF (ci := 0) (j := 8) d_IL_init_97 rfl w_IL_60 (by decide) ⟨rfl, rfl, wl_IL_60⟩ (by rw [a_94]; decide) e_86 (Nat.le_of_ble_eq_true rfl) (⟨rfl, rfl⟩) rfl (fun S_97 a_97 e_97 f_97 => ?_)
  have r_1 := f_97.at r_1 (by decide)
  have r_2 := f_97.at r_2 (by decide)
  have r_3 := f_97.at r_3 (by decide)
  have r_4 := f_97.at r_4 (by decide)
  have r_5 := f_97.at r_5 (by decide)
  have r_6 := f_97.at r_6 (by decide)
  have r_7 := f_97.at r_7 (by decide)
  have r_8 := f_97.at r_8 (by decide)
  have r_9 := f_97.at r_9 (by decide)
  have r_10 := f_97.at r_10 (by decide)
  have r_11 := f_97.at r_11 (by decide)
  have r_12 := f_97.at r_12 (by decide)
  have r_13 := f_97.at r_13 (by decide)
  have r_14 := f_97.at r_14 (by decide)
  have r_15 := f_97.at r_15 (by decide)
  have r_16 := f_97.at r_16 (by decide)
  have r_17 := f_97.at r_17 (by decide)
  have r_18 := f_97.at r_18 (by decide)
  have r_19 := f_97.at r_19 (by decide)
  have r_20 := f_97.at r_20 (by decide)
  have r_21 := f_97.at r_21 (by decide)
  have r_22 := f_97.at r_22 (by decide)
  have r_23 := f_97.at r_23 (by decide)
  have r_24 := f_97.at r_24 (by decide)
  have r_25 := f_97.at r_25 (by decide)
  have r_26 := f_97.at r_26 (by decide)
  have r_27 := f_97.at r_27 (by decide)
  have r_28 := f_97.at r_28 (by decide)
  have r_29 := f_97.at r_29 (by decide)
  have fr : ∀ j, j < 1 → j ≠ 0 → S_97.1 j = S.1 j := fun j h1 h2 => (f_97.2 j (fun hj => h2 (List.mem_singleton.mp hj))).trans (fr j h1 h2)
  have b_97 : S_97.2.2 = 30 := (congrArg Prod.snd f_97.1).trans b_94
  have a_97 : S_97.2.1 = 30 := a_97.trans a_94
  refine mj_aload_n d_IL_init_100 rfl ?_
  refine mz_newo (ci := 7) (w := 30) (fs := [.null, .null, .null, .null, .null]) d_IL_init_101 rfl nw_IL_63 ia_Ls ini_Ls (by decide +kernel) rfl a_97 b_97 (by decide) (by decide) (by decide) (fun S_101 a_101 b_101 r_30 q_101 => ?_)
  have e_97 := (q_101 0 (by decide)).trans e_97
  have r_1 := (q_101 1 (by decide)).trans r_1
  have r_2 := (q_101 2 (by decide)).trans r_2
  have r_3 := (q_101 3 (by decide)).trans r_3
  have r_4 := (q_101 4 (by decide)).trans r_4
  have r_5 := (q_101 5 (by decide)).trans r_5
  have r_6 := (q_101 6 (by decide)).trans r_6
  have r_7 := (q_101 7 (by decide)).trans r_7
  have r_8 := (q_101 8 (by decide)).trans r_8
  have r_9 := (q_101 9 (by decide)).trans r_9
  have r_10 := (q_101 10 (by decide)).trans r_10
  have r_11 := (q_101 11 (by decide)).trans r_11
  have r_12 := (q_101 12 (by decide)).trans r_12
  have r_13 := (q_101 13 (by decide)).trans r_13
  have r_14 := (q_101 14 (by decide)).trans r_14
  have r_15 := (q_101 15 (by decide)).trans r_15
  have r_16 := (q_101 16 (by decide)).trans r_16
  have r_17 := (q_101 17 (by decide)).trans r_17
  have r_18 := (q_101 18 (by decide)).trans r_18
  have r_19 := (q_101 19 (by decide)).trans r_19
  have r_20 := (q_101 20 (by decide)).trans r_20
  have r_21 := (q_101 21 (by decide)).trans r_21
  have r_22 := (q_101 22 (by decide)).trans r_22
  have r_23 := (q_101 23 (by decide)).trans r_23
  have r_24 := (q_101 24 (by decide)).trans r_24
  have r_25 := (q_101 25 (by decide)).trans r_25
  have r_26 := (q_101 26 (by decide)).trans r_26
  have r_27 := (q_101 27 (by decide)).trans r_27
  have r_28 := (q_101 28 (by decide)).trans r_28
  have r_29 := (q_101 29 (by decide)).trans r_29
  have fr : ∀ j, j < 1 → j ≠ 0 → S_101.1 j = S.1 j := fun j h1 h2 => (q_101 j (Nat.ne_of_lt (Nat.lt_of_lt_of_le h1 (by decide)))).trans (fr j h1 h2)
  have a_101 : S_101.2.1 = 31 := a_101
  have b_101 : S_101.2.2 = 31 := b_101
  refine mj_dup d_IL_init_104 rfl ?_
  refine mj_aload_n d_IL_init_105 rfl ?_
  refine mj_get (ci := 0) (j := 4) d_IL_init_106 rfl w_IL_33 (by decide) (by rw [a_101]; decide) e_97 rfl ?_
  refine mj_aload_n d_IL_init_109 rfl ?_
  refine mj_get (ci := 0) (j := 8) d_IL_init_110 rfl w_IL_60 (by decide) (by rw [a_101]; decide) e_97 rfl ?_
  refine mz_ctor2 d_IL_init_113 (m_Ls_init (d := 2) a_101 b_101 r_30 (by omega)) cw_Ls_init lk_IL_65 rfl (by omega) rfl (by decide) (by decide) (fun S_113 h_113 => ?_)
  obtain ⟨⟨a_113, b_113, q_113⟩, r_30, r_31, r_32, r_33, r_34, r_35, r_36⟩ := h_113
  have e_97 := (q_113 0 (by decide) (by decide)).trans e_97
  have r_1 := (q_113 1 (by decide) (by decide)).trans r_1
  have r_2 := (q_113 2 (by decide) (by decide)).trans r_2
  have r_3 := (q_113 3 (by decide) (by decide)).trans r_3
  have r_4 := (q_113 4 (by decide) (by decide)).trans r_4
  have r_5 := (q_113 5 (by decide) (by decide)).trans r_5
  have r_6 := (q_113 6 (by decide) (by decide)).trans r_6
  have r_7 := (q_113 7 (by decide) (by decide)).trans r_7
  have r_8 := (q_113 8 (by decide) (by decide)).trans r_8
  have r_9 := (q_113 9 (by decide) (by decide)).trans r_9
  have r_10 := (q_113 10 (by decide) (by decide)).trans r_10
  have r_11 := (q_113 11 (by decide) (by decide)).trans r_11
  have r_12 := (q_113 12 (by decide) (by decide)).trans r_12
  have r_13 := (q_113 13 (by decide) (by decide)).trans r_13
  have r_14 := (q_113 14 (by decide) (by decide)).trans r_14
  have r_15 := (q_113 15 (by decide) (by decide)).trans r_15
  have r_16 := (q_113 16 (by decide) (by decide)).trans r_16
  have r_17 := (q_113 17 (by decide) (by decide)).trans r_17
  have r_18 := (q_113 18 (by decide) (by decide)).trans r_18
  have r_19 := (q_113 19 (by decide) (by decide)).trans r_19
  have r_20 := (q_113 20 (by decide) (by decide)).trans r_20
  have r_21 := (q_113 21 (by decide) (by decide)).trans r_21
  have r_22 := (q_113 22 (by decide) (by decide)).trans r_22
  have r_23 := (q_113 23 (by decide) (by decide)).trans r_23
  have r_24 := (q_113 24 (by decide) (by decide)).trans r_24
  have r_25 := (q_113 25 (by decide) (by decide)).trans r_25
  have r_26 := (q_113 26 (by decide) (by decide)).trans r_26
  have r_27 := (q_113 27 (by decide) (by decide)).trans r_27
  have r_28 := (q_113 28 (by decide) (by decide)).trans r_28
  have r_29 := (q_113 29 (by decide) (by decide)).trans r_29
  have fr : ∀ j, j < 1 → j ≠ 0 → S_113.1 j = S.1 j := fun j h1 h2 => (q_113 j (Nat.lt_of_lt_of_le h1 (by decide)) (Nat.ne_of_lt (Nat.lt_of_lt_of_le h1 (by decide)))).trans (fr j h1 h2)
  have a_113 : S_113.2.1 = 37 := a_113
  have b_113 : S_113.2.2 = 37 := b_113
  refine mz_putF (ci := 0) (j := 5) d_IL_init_116 rfl w_IL_68 (by decide) ⟨rfl, rfl, wl_IL_68⟩ (by rw [a_113]; decide) e_97 (Nat.le_of_ble_eq_true rfl) (⟨rfl, rfl⟩) rfl (fun S_116 a_116 e_116 f_116 => ?_)
  have r_1 := f_116.at r_1 (by decide)
  have r_2 := f_116.at r_2 (by decide)
  have r_3 := f_116.at r_3 (by decide)
  have r_4 := f_116.at r_4 (by decide)
  have r_5 := f_116.at r_5 (by decide)
  have r_6 := f_116.at r_6 (by decide)
  have r_7 := f_116.at r_7 (by decide)
  have r_8 := f_116.at r_8 (by decide)
  have r_9 := f_116.at r_9 (by decide)
  have r_10 := f_116.at r_10 (by decide)
  have r_11 := f_116.at r_11 (by decide)
  have r_12 := f_116.at r_12 (by decide)
  have r_13 := f_116.at r_13 (by decide)
  have r_14 := f_116.at r_14 (by decide)
  have r_15 := f_116.at r_15 (by decide)
  have r_16 := f_116.at r_16 (by decide)
  have r_17 := f_116.at r_17 (by decide)
  have r_18 := f_116.at r_18 (by decide)
  have r_19 := f_116.at r_19 (by decide)
  have r_20 := f_116.at r_20 (by decide)
  have r_21 := f_116.at r_21 (by decide)
  have r_22 := f_116.at r_22 (by decide)
  have r_23 := f_116.at r_23 (by decide)
  have r_24 := f_116.at r_24 (by decide)
  have r_25 := f_116.at r_25 (by decide)
  have r_26 := f_116.at r_26 (by decide)
  have r_27 := f_116.at r_27 (by decide)
  have r_28 := f_116.at r_28 (by decide)
  have r_29 := f_116.at r_29 (by decide)
  have r_30 := f_116.at r_30 (by decide)
  have r_31 := f_116.at r_31 (by decide)
  have r_32 := f_116.at r_32 (by decide)
  have r_33 := f_116.at r_33 (by decide)
  have r_34 := f_116.at r_34 (by decide)
  have r_35 := f_116.at r_35 (by decide)
  have r_36 := f_116.at r_36 (by decide)
  have fr : ∀ j, j < 1 → j ≠ 0 → S_116.1 j = S.1 j := fun j h1 h2 => (f_116.2 j (fun hj => h2 (List.mem_singleton.mp hj))).trans (fr j h1 h2)
  have b_116 : S_116.2.2 = 37 := (congrArg Prod.snd f_116.1).trans b_113
  have a_116 : S_116.2.1 = 37 := a_116.trans a_113
  refine mj_aload_n d_IL_init_119 rfl ?_
  refine mz_iconst d_IL_init_120 ?_
  refine mz_put (ci := 0) (j := 9) d_IL_init_121 rfl w_IL_72 (by decide) rfl (by rw [a_116]; decide) e_116 (Nat.le_of_ble_eq_true rfl) (mj_fit_int _) rfl (fun S_121 a_121 e_121 f_121 => ?_)
  have r_1 := f_121.at r_1 (by decide)
  have r_2 := f_121.at r_2 (by decide)
  have r_3 := f_121.at r_3 (by decide)
  have r_4 := f_121.at r_4 (by decide)
  have r_5 := f_121.at r_5 (by decide)
  have r_6 := f_121.at r_6 (by decide)
  have r_7 := f_121.at r_7 (by decide)
  have r_8 := f_121.at r_8 (by decide)
  have r_9 := f_121.at r_9 (by decide)
  have r_10 := f_121.at r_10 (by decide)
  have r_11 := f_121.at r_11 (by decide)
  have r_12 := f_121.at r_12 (by decide)
  have r_13 := f_121.at r_13 (by decide)
  have r_14 := f_121.at r_14 (by decide)
  have r_15 := f_121.at r_15 (by decide)
  have r_16 := f_121.at r_16 (by decide)
  have r_17 := f_121.at r_17 (by decide)
  have r_18 := f_121.at r_18 (by decide)
  have r_19 := f_121.at r_19 (by decide)
  have r_20 := f_121.at r_20 (by decide)
  have r_21 := f_121.at r_21 (by decide)
  have r_22 := f_121.at r_22 (by decide)
  have r_23 := f_121.at r_23 (by decide)
  have r_24 := f_121.at r_24 (by decide)
  have r_25 := f_121.at r_25 (by decide)
  have r_26 := f_121.at r_26 (by decide)
  have r_27 := f_121.at r_27 (by decide)
  have r_28 := f_121.at r_28 (by decide)
  have r_29 := f_121.at r_29 (by decide)
  have r_30 := f_121.at r_30 (by decide)
  have r_31 := f_121.at r_31 (by decide)
  have r_32 := f_121.at r_32 (by decide)
  have r_33 := f_121.at r_33 (by decide)
  have r_34 := f_121.at r_34 (by decide)
  have r_35 := f_121.at r_35 (by decide)
  have r_36 := f_121.at r_36 (by decide)
  have fr : ∀ j, j < 1 → j ≠ 0 → S_121.1 j = S.1 j := fun j h1 h2 => (f_121.2 j (fun hj => h2 (List.mem_singleton.mp hj))).trans (fr j h1 h2)
  have b_121 : S_121.2.2 = 37 := (congrArg Prod.snd f_121.1).trans b_116
  have a_121 : S_121.2.1 = 37 := a_121.trans a_116
  refine mz_vret d_IL_init_124 rfl ?_
  exact ⟨⟨a_121, b_121, fr⟩, e_121, r_1, r_2, r_3, r_4, r_5, r_6, r_7, r_8, r_9, r_10, r_11, r_12, r_13, r_14, r_15, r_16, r_17, r_18, r_19, r_20, r_21, r_22, r_23, r_24, r_25, r_26, r_27, r_28, r_29, r_30, r_31, r_32, r_33, r_34, r_35, r_36⟩
theorem m_Mo_init {S : mj_S} (hS1 : S.2.1 = 38) (hS2 : S.2.2 = 38) (he : S.1 37 = .inr (9, [.int (iZ 0), .int (iZ 0), .null, .int (iZ 0), .int (iZ 0), .int (iZ 0), .null, .int (iZ 0), .null, .int (iZ 0), .null, .null, .null, .int (iZ 0), .null, .int (iZ 0), .null, .null, .null, .int (iZ 0), .null, .null, .null, .null, .null, .null, .null, .null, .null, .null, .null, .null, .null])) (hd : 1 ≤ d) : mj_Met Γ d y_Mo_init M_Mo_init [.ref 37] S 23 15350 (mj_V fun S' => mj_cg S S' 37 38 23 ∧ S'.1 37 = .inr (9, [.int (iZ 0), .int (iZ 0), .ref 38, .int (iZ (-1)), .int (iZ 0), .int (iZ 0), .ref 39, .int (iZ 0), .ref 40, .int (iZ 0), .ref 41, .ref 42, .ref 43, .int (iZ 0), .ref 44, .int (iZ 0), .ref 45, .ref 46, .ref 47, .int (iZ 0), .ref 48, .ref 49, .ref 50, .ref 51, .ref 52, .ref 53, .ref 54, .ref 55, .ref 56, .ref 57, .ref 58, .ref 59, .ref 60]) ∧ S'.1 38 = .inl (1, 60, .inl (mj_z fun _ => 0)) ∧ S'.1 39 = .inl (0, 6, .inl (mj_z fun _ => 0)) ∧ S'.1 40 = .inl (0, 7500, .inl (mj_z fun _ => 0)) ∧ S'.1 41 = .inl (0, 6, .inl (mj_z fun _ => 0)) ∧ S'.1 42 = .inl (0, 15, .inl (mj_z fun _ => 0)) ∧ S'.1 43 = .inl (0, 6, .inl (mj_z fun _ => 0)) ∧ S'.1 44 = .inl (0, 16, .inl (mj_z fun _ => 0)) ∧ S'.1 45 = .inl (0, 7515, .inl (mj_z fun _ => 0)) ∧ S'.1 46 = .inl (0, 7, .inl (mj_z fun _ => 0)) ∧ S'.1 47 = .inl (2, 6, .inl (mj_z fun _ => 0)) ∧ S'.1 48 = .inl (0, 6, .inl (mj_z fun _ => 0)) ∧ S'.1 49 = .inl (0, 36, .inl (mj_z fun _ => 0)) ∧ S'.1 50 = .inl (0, 15, .inl (mj_z fun _ => 0)) ∧ S'.1 51 = .inl (0, 10, .inl (mj_z fun _ => 0)) ∧ S'.1 52 = .inl (0, 60, .inl (mj_z fun _ => 0)) ∧ S'.1 53 = .inl (0, 10, .inl (mj_z fun _ => 0)) ∧ S'.1 54 = .inl (0, 10, .inl (mj_z fun _ => 0)) ∧ S'.1 55 = .inl (0, 6, .inl (mj_z fun _ => 0)) ∧ S'.1 56 = .inl (0, 36, .inl (mj_z fun _ => 0)) ∧ S'.1 57 = .inl (0, 6, .inl (mj_z fun _ => 0)) ∧ S'.1 58 = .inl (2, 6, .inl (mj_z fun _ => 0)) ∧ S'.1 59 = .inl (2, 6, .inl (mj_z fun _ => 0)) ∧ S'.1 60 = .inl (0, 6, .inl (mj_z fun _ => 0))) := by
  refine mj_Met.of (by decide) ⟨rfl, rfl⟩ rfl rfl rfl ?_
  refine mj_aload_n d_Mo_init_0 rfl ?_
  refine mj_objInit d_Mo_init_1 mj_obj_Mo (by omega) rfl ?_
  refine mj_aload_n d_Mo_init_4 rfl ?_
  refine mz_bipush d_Mo_init_5 (by decide) ?_
  refine mz_newA (t := 1) (N := 60) (w := 38) d_Mo_init_7 rfl rfl ac_C (by decide) (by decide) hS1 hS2 (by decide) (by decide) (by decide) (fun S_7 a_7 b_7 r_38 q_7 => ?_)
  have he := (q_7 37 (by decide)).trans he
  have fr : ∀ j, j < 38 → j ≠ 37 → S_7.1 j = S.1 j := fun j h1 h2 => (q_7 j (Nat.ne_of_lt (Nat.lt_of_lt_of_le h1 (by decide))))
  have a_7 : S_7.2.1 = 39 := a_7
  have b_7 : S_7.2.2 = 39 := b_7
  refine mz_putF (ci := 9) (j := 2) d_Mo_init_9 rfl w_Mo_7 (by decide) ⟨rfl, rfl, wl_Mo_7⟩ (by rw [a_7]; decide) he (Nat.le_of_ble_eq_true rfl) (⟨rfl, rfl⟩) rfl (fun S_9 a_9 e_9 f_9 => ?_)
  have r_38 := f_9.at r_38 (by decide)
  have fr : ∀ j, j < 38 → j ≠ 37 → S_9.1 j = S.1 j := fun j h1 h2 => (f_9.2 j (fun hj => h2 (List.mem_singleton.mp hj))).trans (fr j h1 h2)
  have b_9 : S_9.2.2 = 39 := (congrArg Prod.snd f_9.1).trans b_7
  have a_9 : S_9.2.1 = 39 := a_9.trans a_7
  refine mj_aload_n d_Mo_init_12 rfl ?_
  refine mz_iconst d_Mo_init_13 ?_
  refine mz_put (ci := 9) (j := 3) d_Mo_init_14 rfl w_Mo_13 (by decide) rfl (by rw [a_9]; decide) e_9 (Nat.le_of_ble_eq_true rfl) (mj_fit_int _) rfl (fun S_14 a_14 e_14 f_14 => ?_)
  have r_38 := f_14.at r_38 (by decide)
  have fr : ∀ j, j < 38 → j ≠ 37 → S_14.1 j = S.1 j := fun j h1 h2 => (f_14.2 j (fun hj => h2 (List.mem_singleton.mp hj))).trans (fr j h1 h2)
  have b_14 : S_14.2.2 = 39 := (congrArg Prod.snd f_14.1).trans b_9
  have a_14 : S_14.2.1 = 39 := a_14.trans a_9
  refine mj_aload_n d_Mo_init_17 rfl ?_
  refine mz_bipush d_Mo_init_18 (by decide) ?_
  refine mz_newA (t := 0) (N := 6) (w := 39) d_Mo_init_20 rfl rfl ac_I (by decide) (by decide) a_14 b_14 (by decide) (by decide) (by decide) (fun S_20 a_20 b_20 r_39 q_20 => ?_)
  have e_14 := (q_20 37 (by decide)).trans e_14
  have r_38 := (q_20 38 (by decide)).trans r_38
  have fr : ∀ j, j < 38 → j ≠ 37 → S_20.1 j = S.1 j := fun j h1 h2 => (q_20 j (Nat.ne_of_lt (Nat.lt_of_lt_of_le h1 (by decide)))).trans (fr j h1 h2)
  have a_20 : S_20.2.1 = 40 := a_20
  have b_20 : S_20.2.2 = 40 := b_20
  refine mz_putF (ci := 9) (j := 6) d_Mo_init_22 rfl w_Mo_17 (by decide) ⟨rfl, rfl, wl_Mo_17⟩ (by rw [a_20]; decide) e_14 (Nat.le_of_ble_eq_true rfl) (⟨rfl, rfl⟩) rfl (fun S_22 a_22 e_22 f_22 => ?_)
  have r_38 := f_22.at r_38 (by decide)
  have r_39 := f_22.at r_39 (by decide)
  have fr : ∀ j, j < 38 → j ≠ 37 → S_22.1 j = S.1 j := fun j h1 h2 => (f_22.2 j (fun hj => h2 (List.mem_singleton.mp hj))).trans (fr j h1 h2)
  have b_22 : S_22.2.2 = 40 := (congrArg Prod.snd f_22.1).trans b_20
  have a_22 : S_22.2.1 = 40 := a_22.trans a_20
  refine mj_aload_n d_Mo_init_25 rfl ?_
  refine mz_sipush d_Mo_init_26 (by decide) ?_
  refine mz_newA (t := 0) (N := 7500) (w := 40) d_Mo_init_29 rfl rfl ac_I (by decide) (by decide) a_22 b_22 (by decide) (by decide) (by decide) (fun S_29 a_29 b_29 r_40 q_29 => ?_)
  have e_22 := (q_29 37 (by decide)).trans e_22
  have r_38 := (q_29 38 (by decide)).trans r_38
  have r_39 := (q_29 39 (by decide)).trans r_39
  have fr : ∀ j, j < 38 → j ≠ 37 → S_29.1 j = S.1 j := fun j h1 h2 => (q_29 j (Nat.ne_of_lt (Nat.lt_of_lt_of_le h1 (by decide)))).trans (fr j h1 h2)
  have a_29 : S_29.2.1 = 41 := a_29
  have b_29 : S_29.2.2 = 41 := b_29
  refine mz_putF (ci := 9) (j := 8) d_Mo_init_31 rfl w_Mo_21 (by decide) ⟨rfl, rfl, wl_Mo_21⟩ (by rw [a_29]; decide) e_22 (Nat.le_of_ble_eq_true rfl) (⟨rfl, rfl⟩) rfl (fun S_31 a_31 e_31 f_31 => ?_)
  have r_38 := f_31.at r_38 (by decide)
  have r_39 := f_31.at r_39 (by decide)
  have r_40 := f_31.at r_40 (by decide)
  have fr : ∀ j, j < 38 → j ≠ 37 → S_31.1 j = S.1 j := fun j h1 h2 => (f_31.2 j (fun hj => h2 (List.mem_singleton.mp hj))).trans (fr j h1 h2)
  have b_31 : S_31.2.2 = 41 := (congrArg Prod.snd f_31.1).trans b_29
  have a_31 : S_31.2.1 = 41 := a_31.trans a_29
  refine mj_aload_n d_Mo_init_34 rfl ?_
  refine mz_bipush d_Mo_init_35 (by decide) ?_
  refine mz_newA (t := 0) (N := 6) (w := 41) d_Mo_init_37 rfl rfl ac_I (by decide) (by decide) a_31 b_31 (by decide) (by decide) (by decide) (fun S_37 a_37 b_37 r_41 q_37 => ?_)
  have e_31 := (q_37 37 (by decide)).trans e_31
  have r_38 := (q_37 38 (by decide)).trans r_38
  have r_39 := (q_37 39 (by decide)).trans r_39
  have r_40 := (q_37 40 (by decide)).trans r_40
  have fr : ∀ j, j < 38 → j ≠ 37 → S_37.1 j = S.1 j := fun j h1 h2 => (q_37 j (Nat.ne_of_lt (Nat.lt_of_lt_of_le h1 (by decide)))).trans (fr j h1 h2)
  have a_37 : S_37.2.1 = 42 := a_37
  have b_37 : S_37.2.2 = 42 := b_37
  refine mz_putF (ci := 9) (j := 10) d_Mo_init_39 rfl w_Mo_24 (by decide) ⟨rfl, rfl, wl_Mo_24⟩ (by rw [a_37]; decide) e_31 (Nat.le_of_ble_eq_true rfl) (⟨rfl, rfl⟩) rfl (fun S_39 a_39 e_39 f_39 => ?_)
  have r_38 := f_39.at r_38 (by decide)
  have r_39 := f_39.at r_39 (by decide)
  have r_40 := f_39.at r_40 (by decide)
  have r_41 := f_39.at r_41 (by decide)
  have fr : ∀ j, j < 38 → j ≠ 37 → S_39.1 j = S.1 j := fun j h1 h2 => (f_39.2 j (fun hj => h2 (List.mem_singleton.mp hj))).trans (fr j h1 h2)
  have b_39 : S_39.2.2 = 42 := (congrArg Prod.snd f_39.1).trans b_37
  have a_39 : S_39.2.1 = 42 := a_39.trans a_37
  refine mj_aload_n d_Mo_init_42 rfl ?_
  refine mz_bipush d_Mo_init_43 (by decide) ?_
  refine mz_newA (t := 0) (N := 15) (w := 42) d_Mo_init_45 rfl rfl ac_I (by decide) (by decide) a_39 b_39 (by decide) (by decide) (by decide) (fun S_45 a_45 b_45 r_42 q_45 => ?_)
  have e_39 := (q_45 37 (by decide)).trans e_39
  have r_38 := (q_45 38 (by decide)).trans r_38
  have r_39 := (q_45 39 (by decide)).trans r_39
  have r_40 := (q_45 40 (by decide)).trans r_40
  have r_41 := (q_45 41 (by decide)).trans r_41
  have fr : ∀ j, j < 38 → j ≠ 37 → S_45.1 j = S.1 j := fun j h1 h2 => (q_45 j (Nat.ne_of_lt (Nat.lt_of_lt_of_le h1 (by decide)))).trans (fr j h1 h2)
  have a_45 : S_45.2.1 = 43 := a_45
  have b_45 : S_45.2.2 = 43 := b_45
  refine mz_putF (ci := 9) (j := 11) d_Mo_init_47 rfl w_Mo_27 (by decide) ⟨rfl, rfl, wl_Mo_27⟩ (by rw [a_45]; decide) e_39 (Nat.le_of_ble_eq_true rfl) (⟨rfl, rfl⟩) rfl (fun S_47 a_47 e_47 f_47 => ?_)
  have r_38 := f_47.at r_38 (by decide)
  have r_39 := f_47.at r_39 (by decide)
  have r_40 := f_47.at r_40 (by decide)
  have r_41 := f_47.at r_41 (by decide)
  have r_42 := f_47.at r_42 (by decide)
  have fr : ∀ j, j < 38 → j ≠ 37 → S_47.1 j = S.1 j := fun j h1 h2 => (f_47.2 j (fun hj => h2 (List.mem_singleton.mp hj))).trans (fr j h1 h2)
  have b_47 : S_47.2.2 = 43 := (congrArg Prod.snd f_47.1).trans b_45
  have a_47 : S_47.2.1 = 43 := a_47.trans a_45
  refine mj_aload_n d_Mo_init_50 rfl ?_
  refine mz_bipush d_Mo_init_51 (by decide) ?_
  refine mz_newA (t := 0) (N := 6) (w := 43) d_Mo_init_53 rfl rfl ac_I (by decide) (by decide) a_47 b_47 (by decide) (by decide) (by decide) (fun S_53 a_53 b_53 r_43 q_53 => ?_)
  have e_47 := (q_53 37 (by decide)).trans e_47
  have r_38 := (q_53 38 (by decide)).trans r_38
  have r_39 := (q_53 39 (by decide)).trans r_39
  have r_40 := (q_53 40 (by decide)).trans r_40
  have r_41 := (q_53 41 (by decide)).trans r_41
  have r_42 := (q_53 42 (by decide)).trans r_42
  have fr : ∀ j, j < 38 → j ≠ 37 → S_53.1 j = S.1 j := fun j h1 h2 => (q_53 j (Nat.ne_of_lt (Nat.lt_of_lt_of_le h1 (by decide)))).trans (fr j h1 h2)
  have a_53 : S_53.2.1 = 44 := a_53
  have b_53 : S_53.2.2 = 44 := b_53
  refine mz_putF (ci := 9) (j := 12) d_Mo_init_55 rfl w_Mo_30 (by decide) ⟨rfl, rfl, wl_Mo_30⟩ (by rw [a_53]; decide) e_47 (Nat.le_of_ble_eq_true rfl) (⟨rfl, rfl⟩) rfl (fun S_55 a_55 e_55 f_55 => ?_)
  have r_38 := f_55.at r_38 (by decide)
  have r_39 := f_55.at r_39 (by decide)
  have r_40 := f_55.at r_40 (by decide)
  have r_41 := f_55.at r_41 (by decide)
  have r_42 := f_55.at r_42 (by decide)
  have r_43 := f_55.at r_43 (by decide)
  have fr : ∀ j, j < 38 → j ≠ 37 → S_55.1 j = S.1 j := fun j h1 h2 => (f_55.2 j (fun hj => h2 (List.mem_singleton.mp hj))).trans (fr j h1 h2)
  have b_55 : S_55.2.2 = 44 := (congrArg Prod.snd f_55.1).trans b_53
  have a_55 : S_55.2.1 = 44 := a_55.trans a_53
  refine mj_aload_n d_Mo_init_58 rfl ?_
  refine mz_bipush d_Mo_init_59 (by decide) ?_
  refine mz_newA (t := 0) (N := 16) (w := 44) d_Mo_init_61 rfl rfl ac_I (by decide) (by decide) a_55 b_55 (by decide) (by decide) (by decide) (fun S_61 a_61 b_61 r_44 q_61 => ?_)
  have e_55 := (q_61 37 (by decide)).trans e_55
  have r_38 := (q_61 38 (by decide)).trans r_38
  have r_39 := (q_61 39 (by decide)).trans r_39
  have r_40 := (q_61 40 (by decide)).trans r_40
  have r_41 := (q_61 41 (by decide)).trans r_41
  have r_42 := (q_61 42 (by decide)).trans r_42
  have r_43 := (q_61 43 (by decide)).trans r_43
  have fr : ∀ j, j < 38 → j ≠ 37 → S_61.1 j = S.1 j := fun j h1 h2 => (q_61 j (Nat.ne_of_lt (Nat.lt_of_lt_of_le h1 (by decide)))).trans (fr j h1 h2)
  have a_61 : S_61.2.1 = 45 := a_61
  have b_61 : S_61.2.2 = 45 := b_61
  refine mz_putF (ci := 9) (j := 14) d_Mo_init_63 rfl w_Mo_33 (by decide) ⟨rfl, rfl, wl_Mo_33⟩ (by rw [a_61]; decide) e_55 (Nat.le_of_ble_eq_true rfl) (⟨rfl, rfl⟩) rfl (fun S_63 a_63 e_63 f_63 => ?_)
  have r_38 := f_63.at r_38 (by decide)
  have r_39 := f_63.at r_39 (by decide)
  have r_40 := f_63.at r_40 (by decide)
  have r_41 := f_63.at r_41 (by decide)
  have r_42 := f_63.at r_42 (by decide)
  have r_43 := f_63.at r_43 (by decide)
  have r_44 := f_63.at r_44 (by decide)
  have fr : ∀ j, j < 38 → j ≠ 37 → S_63.1 j = S.1 j := fun j h1 h2 => (f_63.2 j (fun hj => h2 (List.mem_singleton.mp hj))).trans (fr j h1 h2)
  have b_63 : S_63.2.2 = 45 := (congrArg Prod.snd f_63.1).trans b_61
  have a_63 : S_63.2.1 = 45 := a_63.trans a_61
  refine mj_aload_n d_Mo_init_66 rfl ?_
  refine mz_sipush d_Mo_init_67 (by decide) ?_
  refine mz_newA (t := 0) (N := 7515) (w := 45) d_Mo_init_70 rfl rfl ac_I (by decide) (by decide) a_63 b_63 (by decide) (by decide) (by decide) (fun S_70 a_70 b_70 r_45 q_70 => ?_)
  have e_63 := (q_70 37 (by decide)).trans e_63
  have r_38 := (q_70 38 (by decide)).trans r_38
  have r_39 := (q_70 39 (by decide)).trans r_39
  have r_40 := (q_70 40 (by decide)).trans r_40
  have r_41 := (q_70 41 (by decide)).trans r_41
  have r_42 := (q_70 42 (by decide)).trans r_42
  have r_43 := (q_70 43 (by decide)).trans r_43
  have r_44 := (q_70 44 (by decide)).trans r_44
  have fr : ∀ j, j < 38 → j ≠ 37 → S_70.1 j = S.1 j := fun j h1 h2 => (q_70 j (Nat.ne_of_lt (Nat.lt_of_lt_of_le h1 (by decide)))).trans (fr j h1 h2)
  have a_70 : S_70.2.1 = 46 := a_70
  have b_70 : S_70.2.2 = 46 := b_70
  refine mz_putF (ci := 9) (j := 16) d_Mo_init_72 rfl w_Mo_36 (by decide) ⟨rfl, rfl, wl_Mo_36⟩ (by rw [a_70]; decide) e_63 (Nat.le_of_ble_eq_true rfl) (⟨rfl, rfl⟩) rfl (fun S_72 a_72 e_72 f_72 => ?_)
  have r_38 := f_72.at r_38 (by decide)
  have r_39 := f_72.at r_39 (by decide)
  have r_40 := f_72.at r_40 (by decide)
  have r_41 := f_72.at r_41 (by decide)
  have r_42 := f_72.at r_42 (by decide)
  have r_43 := f_72.at r_43 (by decide)
  have r_44 := f_72.at r_44 (by decide)
  have r_45 := f_72.at r_45 (by decide)
  have fr : ∀ j, j < 38 → j ≠ 37 → S_72.1 j = S.1 j := fun j h1 h2 => (f_72.2 j (fun hj => h2 (List.mem_singleton.mp hj))).trans (fr j h1 h2)
  have b_72 : S_72.2.2 = 46 := (congrArg Prod.snd f_72.1).trans b_70
  have a_72 : S_72.2.1 = 46 := a_72.trans a_70
  refine mj_aload_n d_Mo_init_75 rfl ?_
  refine mz_bipush d_Mo_init_76 (by decide) ?_
  refine mz_newA (t := 0) (N := 7) (w := 46) d_Mo_init_78 rfl rfl ac_I (by decide) (by decide) a_72 b_72 (by decide) (by decide) (by decide) (fun S_78 a_78 b_78 r_46 q_78 => ?_)
  have e_72 := (q_78 37 (by decide)).trans e_72
  have r_38 := (q_78 38 (by decide)).trans r_38
  have r_39 := (q_78 39 (by decide)).trans r_39
  have r_40 := (q_78 40 (by decide)).trans r_40
  have r_41 := (q_78 41 (by decide)).trans r_41
  have r_42 := (q_78 42 (by decide)).trans r_42
  have r_43 := (q_78 43 (by decide)).trans r_43
  have r_44 := (q_78 44 (by decide)).trans r_44
  have r_45 := (q_78 45 (by decide)).trans r_45
  have fr : ∀ j, j < 38 → j ≠ 37 → S_78.1 j = S.1 j := fun j h1 h2 => (q_78 j (Nat.ne_of_lt (Nat.lt_of_lt_of_le h1 (by decide)))).trans (fr j h1 h2)
  have a_78 : S_78.2.1 = 47 := a_78
  have b_78 : S_78.2.2 = 47 := b_78
  refine mz_putF (ci := 9) (j := 17) d_Mo_init_80 rfl w_Mo_39 (by decide) ⟨rfl, rfl, wl_Mo_39⟩ (by rw [a_78]; decide) e_72 (Nat.le_of_ble_eq_true rfl) (⟨rfl, rfl⟩) rfl (fun S_80 a_80 e_80 f_80 => ?_)
  have r_38 := f_80.at r_38 (by decide)
  have r_39 := f_80.at r_39 (by decide)
  have r_40 := f_80.at r_40 (by decide)
  have r_41 := f_80.at r_41 (by decide)
  have r_42 := f_80.at r_42 (by decide)
  have r_43 := f_80.at r_43 (by decide)
  have r_44 := f_80.at r_44 (by decide)
  have r_45 := f_80.at r_45 (by decide)
  have r_46 := f_80.at r_46 (by decide)
  have fr : ∀ j, j < 38 → j ≠ 37 → S_80.1 j = S.1 j := fun j h1 h2 => (f_80.2 j (fun hj => h2 (List.mem_singleton.mp hj))).trans (fr j h1 h2)
  have b_80 : S_80.2.2 = 47 := (congrArg Prod.snd f_80.1).trans b_78
  have a_80 : S_80.2.1 = 47 := a_80.trans a_78
  refine mj_aload_n d_Mo_init_83 rfl ?_
  refine mz_bipush d_Mo_init_84 (by decide) ?_
  refine mz_newA (t := 2) (N := 6) (w := 47) d_Mo_init_86 rfl rfl ac_Z (by decide) (by decide) a_80 b_80 (by decide) (by decide) (by decide) (fun S_86 a_86 b_86 r_47 q_86 => ?_)
  have e_80 := (q_86 37 (by decide)).trans e_80
  have r_38 := (q_86 38 (by decide)).trans r_38
  have r_39 := (q_86 39 (by decide)).trans r_39
  have r_40 := (q_86 40 (by decide)).trans r_40
  have r_41 := (q_86 41 (by decide)).trans r_41
  have r_42 := (q_86 42 (by decide)).trans r_42
  have r_43 := (q_86 43 (by decide)).trans r_43
  have r_44 := (q_86 44 (by decide)).trans r_44
  have r_45 := (q_86 45 (by decide)).trans r_45
  have r_46 := (q_86 46 (by decide)).trans r_46
  have fr : ∀ j, j < 38 → j ≠ 37 → S_86.1 j = S.1 j := fun j h1 h2 => (q_86 j (Nat.ne_of_lt (Nat.lt_of_lt_of_le h1 (by decide)))).trans (fr j h1 h2)
  have a_86 : S_86.2.1 = 48 := a_86
  have b_86 : S_86.2.2 = 48 := b_86
  refine mz_putF (ci := 9) (j := 18) d_Mo_init_88 rfl w_Mo_42 (by decide) ⟨rfl, rfl, wl_Mo_42⟩ (by rw [a_86]; decide) e_80 (Nat.le_of_ble_eq_true rfl) (⟨rfl, rfl⟩) rfl (fun S_88 a_88 e_88 f_88 => ?_)
  have r_38 := f_88.at r_38 (by decide)
  have r_39 := f_88.at r_39 (by decide)
  have r_40 := f_88.at r_40 (by decide)
  have r_41 := f_88.at r_41 (by decide)
  have r_42 := f_88.at r_42 (by decide)
  have r_43 := f_88.at r_43 (by decide)
  have r_44 := f_88.at r_44 (by decide)
  have r_45 := f_88.at r_45 (by decide)
  have r_46 := f_88.at r_46 (by decide)
  have r_47 := f_88.at r_47 (by decide)
  have fr : ∀ j, j < 38 → j ≠ 37 → S_88.1 j = S.1 j := fun j h1 h2 => (f_88.2 j (fun hj => h2 (List.mem_singleton.mp hj))).trans (fr j h1 h2)
  have b_88 : S_88.2.2 = 48 := (congrArg Prod.snd f_88.1).trans b_86
  have a_88 : S_88.2.1 = 48 := a_88.trans a_86
  refine mj_aload_n d_Mo_init_91 rfl ?_
  refine mz_bipush d_Mo_init_92 (by decide) ?_
  refine mz_newA (t := 0) (N := 6) (w := 48) d_Mo_init_94 rfl rfl ac_I (by decide) (by decide) a_88 b_88 (by decide) (by decide) (by decide) (fun S_94 a_94 b_94 r_48 q_94 => ?_)
  have e_88 := (q_94 37 (by decide)).trans e_88
  have r_38 := (q_94 38 (by decide)).trans r_38
  have r_39 := (q_94 39 (by decide)).trans r_39
  have r_40 := (q_94 40 (by decide)).trans r_40
  have r_41 := (q_94 41 (by decide)).trans r_41
  have r_42 := (q_94 42 (by decide)).trans r_42
  have r_43 := (q_94 43 (by decide)).trans r_43
  have r_44 := (q_94 44 (by decide)).trans r_44
  have r_45 := (q_94 45 (by decide)).trans r_45
  have r_46 := (q_94 46 (by decide)).trans r_46
  have r_47 := (q_94 47 (by decide)).trans r_47
  have fr : ∀ j, j < 38 → j ≠ 37 → S_94.1 j = S.1 j := fun j h1 h2 => (q_94 j (Nat.ne_of_lt (Nat.lt_of_lt_of_le h1 (by decide)))).trans (fr j h1 h2)
  have a_94 : S_94.2.1 = 49 := a_94
  have b_94 : S_94.2.2 = 49 := b_94
  refine mz_putF (ci := 9) (j := 20) d_Mo_init_96 rfl w_Mo_46 (by decide) ⟨rfl, rfl, wl_Mo_46⟩ (by rw [a_94]; decide) e_88 (Nat.le_of_ble_eq_true rfl) (⟨rfl, rfl⟩) rfl (fun S_96 a_96 e_96 f_96 => ?_)
  have r_38 := f_96.at r_38 (by decide)
  have r_39 := f_96.at r_39 (by decide)
  have r_40 := f_96.at r_40 (by decide)
  have r_41 := f_96.at r_41 (by decide)
  have r_42 := f_96.at r_42 (by decide)
  have r_43 := f_96.at r_43 (by decide)
  have r_44 := f_96.at r_44 (by decide)
  have r_45 := f_96.at r_45 (by decide)
  have r_46 := f_96.at r_46 (by decide)
  have r_47 := f_96.at r_47 (by decide)
  have r_48 := f_96.at r_48 (by decide)
  have fr : ∀ j, j < 38 → j ≠ 37 → S_96.1 j = S.1 j := fun j h1 h2 => (f_96.2 j (fun hj => h2 (List.mem_singleton.mp hj))).trans (fr j h1 h2)
  have b_96 : S_96.2.2 = 49 := (congrArg Prod.snd f_96.1).trans b_94
  have a_96 : S_96.2.1 = 49 := a_96.trans a_94
  refine mj_aload_n d_Mo_init_99 rfl ?_
  refine mz_bipush d_Mo_init_100 (by decide) ?_
  refine mz_newA (t := 0) (N := 36) (w := 49) d_Mo_init_102 rfl rfl ac_I (by decide) (by decide) a_96 b_96 (by decide) (by decide) (by decide) (fun S_102 a_102 b_102 r_49 q_102 => ?_)
  have e_96 := (q_102 37 (by decide)).trans e_96
  have r_38 := (q_102 38 (by decide)).trans r_38
  have r_39 := (q_102 39 (by decide)).trans r_39
  have r_40 := (q_102 40 (by decide)).trans r_40
  have r_41 := (q_102 41 (by decide)).trans r_41
  have r_42 := (q_102 42 (by decide)).trans r_42
  have r_43 := (q_102 43 (by decide)).trans r_43
  have r_44 := (q_102 44 (by decide)).trans r_44
  have r_45 := (q_102 45 (by decide)).trans r_45
  have r_46 := (q_102 46 (by decide)).trans r_46
  have r_47 := (q_102 47 (by decide)).trans r_47
  have r_48 := (q_102 48 (by decide)).trans r_48
  have fr : ∀ j, j < 38 → j ≠ 37 → S_102.1 j = S.1 j := fun j h1 h2 => (q_102 j (Nat.ne_of_lt (Nat.lt_of_lt_of_le h1 (by decide)))).trans (fr j h1 h2)
  have a_102 : S_102.2.1 = 50 := a_102
  have b_102 : S_102.2.2 = 50 := b_102
  refine mz_putF (ci := 9) (j := 21) d_Mo_init_104 rfl w_Mo_49 (by decide) ⟨rfl, rfl, wl_Mo_49⟩ (by rw [a_102]; decide) e_96 (Nat.le_of_ble_eq_true rfl) (⟨rfl, rfl⟩) rfl (fun S_104 a_104 e_104 f_104 => ?_)
  have r_38 := f_104.at r_38 (by decide)
  have r_39 := f_104.at r_39 (by decide)
  have r_40 := f_104.at r_40 (by decide)
  have r_41 := f_104.at r_41 (by decide)
  have r_42 := f_104.at r_42 (by decide)
  have r_43 := f_104.at r_43 (by decide)
  have r_44 := f_104.at r_44 (by decide)
  have r_45 := f_104.at r_45 (by decide)
  have r_46 := f_104.at r_46 (by decide)
  have r_47 := f_104.at r_47 (by decide)
  have r_48 := f_104.at r_48 (by decide)
  have r_49 := f_104.at r_49 (by decide)
  have fr : ∀ j, j < 38 → j ≠ 37 → S_104.1 j = S.1 j := fun j h1 h2 => (f_104.2 j (fun hj => h2 (List.mem_singleton.mp hj))).trans (fr j h1 h2)
  have b_104 : S_104.2.2 = 50 := (congrArg Prod.snd f_104.1).trans b_102
  have a_104 : S_104.2.1 = 50 := a_104.trans a_102
  refine mj_aload_n d_Mo_init_107 rfl ?_
  refine mz_bipush d_Mo_init_108 (by decide) ?_
  refine mz_newA (t := 0) (N := 15) (w := 50) d_Mo_init_110 rfl rfl ac_I (by decide) (by decide) a_104 b_104 (by decide) (by decide) (by decide) (fun S_110 a_110 b_110 r_50 q_110 => ?_)
  have e_104 := (q_110 37 (by decide)).trans e_104
  have r_38 := (q_110 38 (by decide)).trans r_38
  have r_39 := (q_110 39 (by decide)).trans r_39
  have r_40 := (q_110 40 (by decide)).trans r_40
  have r_41 := (q_110 41 (by decide)).trans r_41
  have r_42 := (q_110 42 (by decide)).trans r_42
  have r_43 := (q_110 43 (by decide)).trans r_43
  have r_44 := (q_110 44 (by decide)).trans r_44
  have r_45 := (q_110 45 (by decide)).trans r_45
  have r_46 := (q_110 46 (by decide)).trans r_46
  have r_47 := (q_110 47 (by decide)).trans r_47
  have r_48 := (q_110 48 (by decide)).trans r_48
  have r_49 := (q_110 49 (by decide)).trans r_49
  have fr : ∀ j, j < 38 → j ≠ 37 → S_110.1 j = S.1 j := fun j h1 h2 => (q_110 j (Nat.ne_of_lt (Nat.lt_of_lt_of_le h1 (by decide)))).trans (fr j h1 h2)
  have a_110 : S_110.2.1 = 51 := a_110
  have b_110 : S_110.2.2 = 51 := b_110
  refine mz_putF (ci := 9) (j := 22) d_Mo_init_112 rfl w_Mo_52 (by decide) ⟨rfl, rfl, wl_Mo_52⟩ (by rw [a_110]; decide) e_104 (Nat.le_of_ble_eq_true rfl) (⟨rfl, rfl⟩) rfl (fun S_112 a_112 e_112 f_112 => ?_)
  have r_38 := f_112.at r_38 (by decide)
  have r_39 := f_112.at r_39 (by decide)
  have r_40 := f_112.at r_40 (by decide)
  have r_41 := f_112.at r_41 (by decide)
  have r_42 := f_112.at r_42 (by decide)
  have r_43 := f_112.at r_43 (by decide)
  have r_44 := f_112.at r_44 (by decide)
  have r_45 := f_112.at r_45 (by decide)
  have r_46 := f_112.at r_46 (by decide)
  have r_47 := f_112.at r_47 (by decide)
  have r_48 := f_112.at r_48 (by decide)
  have r_49 := f_112.at r_49 (by decide)
  have r_50 := f_112.at r_50 (by decide)
  have fr : ∀ j, j < 38 → j ≠ 37 → S_112.1 j = S.1 j := fun j h1 h2 => (f_112.2 j (fun hj => h2 (List.mem_singleton.mp hj))).trans (fr j h1 h2)
  have b_112 : S_112.2.2 = 51 := (congrArg Prod.snd f_112.1).trans b_110
  have a_112 : S_112.2.1 = 51 := a_112.trans a_110
  refine mj_aload_n d_Mo_init_115 rfl ?_
  refine mz_bipush d_Mo_init_116 (by decide) ?_
  refine mz_newA (t := 0) (N := 10) (w := 51) d_Mo_init_118 rfl rfl ac_I (by decide) (by decide) a_112 b_112 (by decide) (by decide) (by decide) (fun S_118 a_118 b_118 r_51 q_118 => ?_)
  have e_112 := (q_118 37 (by decide)).trans e_112
  have r_38 := (q_118 38 (by decide)).trans r_38
  have r_39 := (q_118 39 (by decide)).trans r_39
  have r_40 := (q_118 40 (by decide)).trans r_40
  have r_41 := (q_118 41 (by decide)).trans r_41
  have r_42 := (q_118 42 (by decide)).trans r_42
  have r_43 := (q_118 43 (by decide)).trans r_43
  have r_44 := (q_118 44 (by decide)).trans r_44
  have r_45 := (q_118 45 (by decide)).trans r_45
  have r_46 := (q_118 46 (by decide)).trans r_46
  have r_47 := (q_118 47 (by decide)).trans r_47
  have r_48 := (q_118 48 (by decide)).trans r_48
  have r_49 := (q_118 49 (by decide)).trans r_49
  have r_50 := (q_118 50 (by decide)).trans r_50
  have fr : ∀ j, j < 38 → j ≠ 37 → S_118.1 j = S.1 j := fun j h1 h2 => (q_118 j (Nat.ne_of_lt (Nat.lt_of_lt_of_le h1 (by decide)))).trans (fr j h1 h2)
  have a_118 : S_118.2.1 = 52 := a_118
  have b_118 : S_118.2.2 = 52 := b_118
  refine mz_putF (ci := 9) (j := 23) d_Mo_init_120 rfl w_Mo_55 (by decide) ⟨rfl, rfl, wl_Mo_55⟩ (by rw [a_118]; decide) e_112 (Nat.le_of_ble_eq_true rfl) (⟨rfl, rfl⟩) rfl (fun S_120 a_120 e_120 f_120 => ?_)
  have r_38 := f_120.at r_38 (by decide)
  have r_39 := f_120.at r_39 (by decide)
  have r_40 := f_120.at r_40 (by decide)
  have r_41 := f_120.at r_41 (by decide)
  have r_42 := f_120.at r_42 (by decide)
  have r_43 := f_120.at r_43 (by decide)
  have r_44 := f_120.at r_44 (by decide)
  have r_45 := f_120.at r_45 (by decide)
  have r_46 := f_120.at r_46 (by decide)
  have r_47 := f_120.at r_47 (by decide)
  have r_48 := f_120.at r_48 (by decide)
  have r_49 := f_120.at r_49 (by decide)
  have r_50 := f_120.at r_50 (by decide)
  have r_51 := f_120.at r_51 (by decide)
  have fr : ∀ j, j < 38 → j ≠ 37 → S_120.1 j = S.1 j := fun j h1 h2 => (f_120.2 j (fun hj => h2 (List.mem_singleton.mp hj))).trans (fr j h1 h2)
  have b_120 : S_120.2.2 = 52 := (congrArg Prod.snd f_120.1).trans b_118
  have a_120 : S_120.2.1 = 52 := a_120.trans a_118
  refine mj_aload_n d_Mo_init_123 rfl ?_
  refine mz_bipush d_Mo_init_124 (by decide) ?_
  refine mz_newA (t := 0) (N := 60) (w := 52) d_Mo_init_126 rfl rfl ac_I (by decide) (by decide) a_120 b_120 (by decide) (by decide) (by decide) (fun S_126 a_126 b_126 r_52 q_126 => ?_)
  have e_120 := (q_126 37 (by decide)).trans e_120
  have r_38 := (q_126 38 (by decide)).trans r_38
  have r_39 := (q_126 39 (by decide)).trans r_39
  have r_40 := (q_126 40 (by decide)).trans r_40
  have r_41 := (q_126 41 (by decide)).trans r_41
  have r_42 := (q_126 42 (by decide)).trans r_42
  have r_43 := (q_126 43 (by decide)).trans r_43
  have r_44 := (q_126 44 (by decide)).trans r_44
  have r_45 := (q_126 45 (by decide)).trans r_45
  have r_46 := (q_126 46 (by decide)).trans r_46
  have r_47 := (q_126 47 (by decide)).trans r_47
  have r_48 := (q_126 48 (by decide)).trans r_48
  have r_49 := (q_126 49 (by decide)).trans r_49
  have r_50 := (q_126 50 (by decide)).trans r_50
  have r_51 := (q_126 51 (by decide)).trans r_51
  have fr : ∀ j, j < 38 → j ≠ 37 → S_126.1 j = S.1 j := fun j h1 h2 => (q_126 j (Nat.ne_of_lt (Nat.lt_of_lt_of_le h1 (by decide)))).trans (fr j h1 h2)
  have a_126 : S_126.2.1 = 53 := a_126
  have b_126 : S_126.2.2 = 53 := b_126
  refine mz_putF (ci := 9) (j := 24) d_Mo_init_128 rfl w_Mo_58 (by decide) ⟨rfl, rfl, wl_Mo_58⟩ (by rw [a_126]; decide) e_120 (Nat.le_of_ble_eq_true rfl) (⟨rfl, rfl⟩) rfl (fun S_128 a_128 e_128 f_128 => ?_)
  have r_38 := f_128.at r_38 (by decide)
  have r_39 := f_128.at r_39 (by decide)
  have r_40 := f_128.at r_40 (by decide)
  have r_41 := f_128.at r_41 (by decide)
  have r_42 := f_128.at r_42 (by decide)
  have r_43 := f_128.at r_43 (by decide)
  have r_44 := f_128.at r_44 (by decide)
  have r_45 := f_128.at r_45 (by decide)
  have r_46 := f_128.at r_46 (by decide)
  have r_47 := f_128.at r_47 (by decide)
  have r_48 := f_128.at r_48 (by decide)
  have r_49 := f_128.at r_49 (by decide)
  have r_50 := f_128.at r_50 (by decide)
  have r_51 := f_128.at r_51 (by decide)
  have r_52 := f_128.at r_52 (by decide)
  have fr : ∀ j, j < 38 → j ≠ 37 → S_128.1 j = S.1 j := fun j h1 h2 => (f_128.2 j (fun hj => h2 (List.mem_singleton.mp hj))).trans (fr j h1 h2)
  have b_128 : S_128.2.2 = 53 := (congrArg Prod.snd f_128.1).trans b_126
  have a_128 : S_128.2.1 = 53 := a_128.trans a_126
  refine mj_aload_n d_Mo_init_131 rfl ?_
  refine mz_bipush d_Mo_init_132 (by decide) ?_
  refine mz_newA (t := 0) (N := 10) (w := 53) d_Mo_init_134 rfl rfl ac_I (by decide) (by decide) a_128 b_128 (by decide) (by decide) (by decide) (fun S_134 a_134 b_134 r_53 q_134 => ?_)
  have e_128 := (q_134 37 (by decide)).trans e_128
  have r_38 := (q_134 38 (by decide)).trans r_38
  have r_39 := (q_134 39 (by decide)).trans r_39
  have r_40 := (q_134 40 (by decide)).trans r_40
  have r_41 := (q_134 41 (by decide)).trans r_41
  have r_42 := (q_134 42 (by decide)).trans r_42
  have r_43 := (q_134 43 (by decide)).trans r_43
  have r_44 := (q_134 44 (by decide)).trans r_44
  have r_45 := (q_134 45 (by decide)).trans r_45
  have r_46 := (q_134 46 (by decide)).trans r_46
  have r_47 := (q_134 47 (by decide)).trans r_47
  have r_48 := (q_134 48 (by decide)).trans r_48
  have r_49 := (q_134 49 (by decide)).trans r_49
  have r_50 := (q_134 50 (by decide)).trans r_50
  have r_51 := (q_134 51 (by decide)).trans r_51
  have r_52 := (q_134 52 (by decide)).trans r_52
  have fr : ∀ j, j < 38 → j ≠ 37 → S_134.1 j = S.1 j := fun j h1 h2 => (q_134 j (Nat.ne_of_lt (Nat.lt_of_lt_of_le h1 (by decide)))).trans (fr j h1 h2)
  have a_134 : S_134.2.1 = 54 := a_134
  have b_134 : S_134.2.2 = 54 := b_134
  refine mz_putF (ci := 9) (j := 25) d_Mo_init_136 rfl w_Mo_61 (by decide) ⟨rfl, rfl, wl_Mo_61⟩ (by rw [a_134]; decide) e_128 (Nat.le_of_ble_eq_true rfl) (⟨rfl, rfl⟩) rfl (fun S_136 a_136 e_136 f_136 => ?_)
  have r_38 := f_136.at r_38 (by decide)
  have r_39 := f_136.at r_39 (by decide)
  have r_40 := f_136.at r_40 (by decide)
  have r_41 := f_136.at r_41 (by decide)
  have r_42 := f_136.at r_42 (by decide)
  have r_43 := f_136.at r_43 (by decide)
  have r_44 := f_136.at r_44 (by decide)
  have r_45 := f_136.at r_45 (by decide)
  have r_46 := f_136.at r_46 (by decide)
  have r_47 := f_136.at r_47 (by decide)
  have r_48 := f_136.at r_48 (by decide)
  have r_49 := f_136.at r_49 (by decide)
  have r_50 := f_136.at r_50 (by decide)
  have r_51 := f_136.at r_51 (by decide)
  have r_52 := f_136.at r_52 (by decide)
  have r_53 := f_136.at r_53 (by decide)
  have fr : ∀ j, j < 38 → j ≠ 37 → S_136.1 j = S.1 j := fun j h1 h2 => (f_136.2 j (fun hj => h2 (List.mem_singleton.mp hj))).trans (fr j h1 h2)
  have b_136 : S_136.2.2 = 54 := (congrArg Prod.snd f_136.1).trans b_134
  have a_136 : S_136.2.1 = 54 := a_136.trans a_134
  refine mj_aload_n d_Mo_init_139 rfl ?_
  refine mz_bipush d_Mo_init_140 (by decide) ?_
  refine mz_newA (t := 0) (N := 10) (w := 54) d_Mo_init_142 rfl rfl ac_I (by decide) (by decide) a_136 b_136 (by decide) (by decide) (by decide) (fun S_142 a_142 b_142 r_54 q_142 => ?_)
  have e_136 := (q_142 37 (by decide)).trans e_136
  have r_38 := (q_142 38 (by decide)).trans r_38
  have r_39 := (q_142 39 (by decide)).trans r_39
  have r_40 := (q_142 40 (by decide)).trans r_40
  have r_41 := (q_142 41 (by decide)).trans r_41
  have r_42 := (q_142 42 (by decide)).trans r_42
  have r_43 := (q_142 43 (by decide)).trans r_43
  have r_44 := (q_142 44 (by decide)).trans r_44
  have r_45 := (q_142 45 (by decide)).trans r_45
  have r_46 := (q_142 46 (by decide)).trans r_46
  have r_47 := (q_142 47 (by decide)).trans r_47
  have r_48 := (q_142 48 (by decide)).trans r_48
  have r_49 := (q_142 49 (by decide)).trans r_49
  have r_50 := (q_142 50 (by decide)).trans r_50
  have r_51 := (q_142 51 (by decide)).trans r_51
  have r_52 := (q_142 52 (by decide)).trans r_52
  have r_53 := (q_142 53 (by decide)).trans r_53
  have fr : ∀ j, j < 38 → j ≠ 37 → S_142.1 j = S.1 j := fun j h1 h2 => (q_142 j (Nat.ne_of_lt (Nat.lt_of_lt_of_le h1 (by decide)))).trans (fr j h1 h2)
  have a_142 : S_142.2.1 = 55 := a_142
  have b_142 : S_142.2.2 = 55 := b_142
  refine mz_putF (ci := 9) (j := 26) d_Mo_init_144 rfl w_Mo_64 (by decide) ⟨rfl, rfl, wl_Mo_64⟩ (by rw [a_142]; decide) e_136 (Nat.le_of_ble_eq_true rfl) (⟨rfl, rfl⟩) rfl (fun S_144 a_144 e_144 f_144 => ?_)
  have r_38 := f_144.at r_38 (by decide)
  have r_39 := f_144.at r_39 (by decide)
  have r_40 := f_144.at r_40 (by decide)
  have r_41 := f_144.at r_41 (by decide)
  have r_42 := f_144.at r_42 (by decide)
  have r_43 := f_144.at r_43 (by decide)
  have r_44 := f_144.at r_44 (by decide)
  have r_45 := f_144.at r_45 (by decide)
  have r_46 := f_144.at r_46 (by decide)
  have r_47 := f_144.at r_47 (by decide)
  have r_48 := f_144.at r_48 (by decide)
  have r_49 := f_144.at r_49 (by decide)
  have r_50 := f_144.at r_50 (by decide)
  have r_51 := f_144.at r_51 (by decide)
  have r_52 := f_144.at r_52 (by decide)
  have r_53 := f_144.at r_53 (by decide)
  have r_54 := f_144.at r_54 (by decide)
  have fr : ∀ j, j < 38 → j ≠ 37 → S_144.1 j = S.1 j := fun j h1 h2 => (f_144.2 j (fun hj => h2 (List.mem_singleton.mp hj))).trans (fr j h1 h2)
  have b_144 : S_144.2.2 = 55 := (congrArg Prod.snd f_144.1).trans b_142
  have a_144 : S_144.2.1 = 55 := a_144.trans a_142
  refine mj_aload_n d_Mo_init_147 rfl ?_
  refine mz_bipush d_Mo_init_148 (by decide) ?_
  refine mz_newA (t := 0) (N := 6) (w := 55) d_Mo_init_150 rfl rfl ac_I (by decide) (by decide) a_144 b_144 (by decide) (by decide) (by decide) (fun S_150 a_150 b_150 r_55 q_150 => ?_)
  have e_144 := (q_150 37 (by decide)).trans e_144
  have r_38 := (q_150 38 (by decide)).trans r_38
  have r_39 := (q_150 39 (by decide)).trans r_39
  have r_40 := (q_150 40 (by decide)).trans r_40
  have r_41 := (q_150 41 (by decide)).trans r_41
  have r_42 := (q_150 42 (by decide)).trans r_42
  have r_43 := (q_150 43 (by decide)).trans r_43
  have r_44 := (q_150 44 (by decide)).trans r_44
  have r_45 := (q_150 45 (by decide)).trans r_45
  have r_46 := (q_150 46 (by decide)).trans r_46
  have r_47 := (q_150 47 (by decide)).trans r_47
  have r_48 := (q_150 48 (by decide)).trans r_48
  have r_49 := (q_150 49 (by decide)).trans r_49
  have r_50 := (q_150 50 (by decide)).trans r_50
  have r_51 := (q_150 51 (by decide)).trans r_51
  have r_52 := (q_150 52 (by decide)).trans r_52
  have r_53 := (q_150 53 (by decide)).trans r_53
  have r_54 := (q_150 54 (by decide)).trans r_54
  have fr : ∀ j, j < 38 → j ≠ 37 → S_150.1 j = S.1 j := fun j h1 h2 => (q_150 j (Nat.ne_of_lt (Nat.lt_of_lt_of_le h1 (by decide)))).trans (fr j h1 h2)
  have a_150 : S_150.2.1 = 56 := a_150
  have b_150 : S_150.2.2 = 56 := b_150
  refine mz_putF (ci := 9) (j := 27) d_Mo_init_152 rfl w_Mo_67 (by decide) ⟨rfl, rfl, wl_Mo_67⟩ (by rw [a_150]; decide) e_144 (Nat.le_of_ble_eq_true rfl) (⟨rfl, rfl⟩) rfl (fun S_152 a_152 e_152 f_152 => ?_)
  have r_38 := f_152.at r_38 (by decide)
  have r_39 := f_152.at r_39 (by decide)
  have r_40 := f_152.at r_40 (by decide)
  have r_41 := f_152.at r_41 (by decide)
  have r_42 := f_152.at r_42 (by decide)
  have r_43 := f_152.at r_43 (by decide)
  have r_44 := f_152.at r_44 (by decide)
  have r_45 := f_152.at r_45 (by decide)
  have r_46 := f_152.at r_46 (by decide)
  have r_47 := f_152.at r_47 (by decide)
  have r_48 := f_152.at r_48 (by decide)
  have r_49 := f_152.at r_49 (by decide)
  have r_50 := f_152.at r_50 (by decide)
  have r_51 := f_152.at r_51 (by decide)
  have r_52 := f_152.at r_52 (by decide)
  have r_53 := f_152.at r_53 (by decide)
  have r_54 := f_152.at r_54 (by decide)
  have r_55 := f_152.at r_55 (by decide)
  have fr : ∀ j, j < 38 → j ≠ 37 → S_152.1 j = S.1 j := fun j h1 h2 => (f_152.2 j (fun hj => h2 (List.mem_singleton.mp hj))).trans (fr j h1 h2)
  have b_152 : S_152.2.2 = 56 := (congrArg Prod.snd f_152.1).trans b_150
  have a_152 : S_152.2.1 = 56 := a_152.trans a_150
  refine mj_aload_n d_Mo_init_155 rfl ?_
  refine mz_bipush d_Mo_init_156 (by decide) ?_
  refine mz_newA (t := 0) (N := 36) (w := 56) d_Mo_init_158 rfl rfl ac_I (by decide) (by decide) a_152 b_152 (by decide) (by decide) (by decide) (fun S_158 a_158 b_158 r_56 q_158 => ?_)
  have e_152 := (q_158 37 (by decide)).trans e_152
  have r_38 := (q_158 38 (by decide)).trans r_38
  have r_39 := (q_158 39 (by decide)).trans r_39
  have r_40 := (q_158 40 (by decide)).trans r_40
  have r_41 := (q_158 41 (by decide)).trans r_41
  have r_42 := (q_158 42 (by decide)).trans r_42
  have r_43 := (q_158 43 (by decide)).trans r_43
  have r_44 := (q_158 44 (by decide)).trans r_44
  have r_45 := (q_158 45 (by decide)).trans r_45
  have r_46 := (q_158 46 (by decide)).trans r_46
  have r_47 := (q_158 47 (by decide)).trans r_47
  have r_48 := (q_158 48 (by decide)).trans r_48
  have r_49 := (q_158 49 (by decide)).trans r_49
  have r_50 := (q_158 50 (by decide)).trans r_50
  have r_51 := (q_158 51 (by decide)).trans r_51
  have r_52 := (q_158 52 (by decide)).trans r_52
  have r_53 := (q_158 53 (by decide)).trans r_53
  have r_54 := (q_158 54 (by decide)).trans r_54
  have r_55 := (q_158 55 (by decide)).trans r_55
  have fr : ∀ j, j < 38 → j ≠ 37 → S_158.1 j = S.1 j := fun j h1 h2 => (q_158 j (Nat.ne_of_lt (Nat.lt_of_lt_of_le h1 (by decide)))).trans (fr j h1 h2)
  have a_158 : S_158.2.1 = 57 := a_158
  have b_158 : S_158.2.2 = 57 := b_158
  refine mz_putF (ci := 9) (j := 28) d_Mo_init_160 rfl w_Mo_70 (by decide) ⟨rfl, rfl, wl_Mo_70⟩ (by rw [a_158]; decide) e_152 (Nat.le_of_ble_eq_true rfl) (⟨rfl, rfl⟩) rfl (fun S_160 a_160 e_160 f_160 => ?_)
  have r_38 := f_160.at r_38 (by decide)
  have r_39 := f_160.at r_39 (by decide)
  have r_40 := f_160.at r_40 (by decide)
  have r_41 := f_160.at r_41 (by decide)
  have r_42 := f_160.at r_42 (by decide)
  have r_43 := f_160.at r_43 (by decide)
  have r_44 := f_160.at r_44 (by decide)
  have r_45 := f_160.at r_45 (by decide)
  have r_46 := f_160.at r_46 (by decide)
  have r_47 := f_160.at r_47 (by decide)
  have r_48 := f_160.at r_48 (by decide)
  have r_49 := f_160.at r_49 (by decide)
  have r_50 := f_160.at r_50 (by decide)
  have r_51 := f_160.at r_51 (by decide)
  have r_52 := f_160.at r_52 (by decide)
  have r_53 := f_160.at r_53 (by decide)
  have r_54 := f_160.at r_54 (by decide)
  have r_55 := f_160.at r_55 (by decide)
  have r_56 := f_160.at r_56 (by decide)
  have fr : ∀ j, j < 38 → j ≠ 37 → S_160.1 j = S.1 j := fun j h1 h2 => (f_160.2 j (fun hj => h2 (List.mem_singleton.mp hj))).trans (fr j h1 h2)
  have b_160 : S_160.2.2 = 57 := (congrArg Prod.snd f_160.1).trans b_158
  have a_160 : S_160.2.1 = 57 := a_160.trans a_158
  refine mj_aload_n d_Mo_init_163 rfl ?_
  refine mz_bipush d_Mo_init_164 (by decide) ?_
  refine mz_newA (t := 0) (N := 6) (w := 57) d_Mo_init_166 rfl rfl ac_I (by decide) (by decide) a_160 b_160 (by decide) (by decide) (by decide) (fun S_166 a_166 b_166 r_57 q_166 => ?_)
  have e_160 := (q_166 37 (by decide)).trans e_160
  have r_38 := (q_166 38 (by decide)).trans r_38
  have r_39 := (q_166 39 (by decide)).trans r_39
  have r_40 := (q_166 40 (by decide)).trans r_40
  have r_41 := (q_166 41 (by decide)).trans r_41
  have r_42 := (q_166 42 (by decide)).trans r_42
  have r_43 := (q_166 43 (by decide)).trans r_43
  have r_44 := (q_166 44 (by decide)).trans r_44
  have r_45 := (q_166 45 (by decide)).trans r_45
  have r_46 := (q_166 46 (by decide)).trans r_46
  have r_47 := (q_166 47 (by decide)).trans r_47
  have r_48 := (q_166 48 (by decide)).trans r_48
  have r_49 := (q_166 49 (by decide)).trans r_49
  have r_50 := (q_166 50 (by decide)).trans r_50
  have r_51 := (q_166 51 (by decide)).trans r_51
  have r_52 := (q_166 52 (by decide)).trans r_52
  have r_53 := (q_166 53 (by decide)).trans r_53
  have r_54 := (q_166 54 (by decide)).trans r_54
  have r_55 := (q_166 55 (by decide)).trans r_55
  have r_56 := (q_166 56 (by decide)).trans r_56
  have fr : ∀ j, j < 38 → j ≠ 37 → S_166.1 j = S.1 j := fun j h1 h2 => (q_166 j (Nat.ne_of_lt (Nat.lt_of_lt_of_le h1 (by decide)))).trans (fr j h1 h2)
  have a_166 : S_166.2.1 = 58 := a_166
  have b_166 : S_166.2.2 = 58 := b_166
  refine mz_putF (ci := 9) (j := 29) d_Mo_init_168 rfl w_Mo_73 (by decide) ⟨rfl, rfl, wl_Mo_73⟩ (by rw [a_166]; decide) e_160 (Nat.le_of_ble_eq_true rfl) (⟨rfl, rfl⟩) rfl (fun S_168 a_168 e_168 f_168 => ?_)
  have r_38 := f_168.at r_38 (by decide)
  have r_39 := f_168.at r_39 (by decide)
  have r_40 := f_168.at r_40 (by decide)
  have r_41 := f_168.at r_41 (by decide)
  have r_42 := f_168.at r_42 (by decide)
  have r_43 := f_168.at r_43 (by decide)
  have r_44 := f_168.at r_44 (by decide)
  have r_45 := f_168.at r_45 (by decide)
  have r_46 := f_168.at r_46 (by decide)
  have r_47 := f_168.at r_47 (by decide)
  have r_48 := f_168.at r_48 (by decide)
  have r_49 := f_168.at r_49 (by decide)
  have r_50 := f_168.at r_50 (by decide)
  have r_51 := f_168.at r_51 (by decide)
  have r_52 := f_168.at r_52 (by decide)
  have r_53 := f_168.at r_53 (by decide)
  have r_54 := f_168.at r_54 (by decide)
  have r_55 := f_168.at r_55 (by decide)
  have r_56 := f_168.at r_56 (by decide)
  have r_57 := f_168.at r_57 (by decide)
  have fr : ∀ j, j < 38 → j ≠ 37 → S_168.1 j = S.1 j := fun j h1 h2 => (f_168.2 j (fun hj => h2 (List.mem_singleton.mp hj))).trans (fr j h1 h2)
  have b_168 : S_168.2.2 = 58 := (congrArg Prod.snd f_168.1).trans b_166
  have a_168 : S_168.2.1 = 58 := a_168.trans a_166
  refine mj_aload_n d_Mo_init_171 rfl ?_
  refine mz_bipush d_Mo_init_172 (by decide) ?_
  refine mz_newA (t := 2) (N := 6) (w := 58) d_Mo_init_174 rfl rfl ac_Z (by decide) (by decide) a_168 b_168 (by decide) (by decide) (by decide) (fun S_174 a_174 b_174 r_58 q_174 => ?_)
  have e_168 := (q_174 37 (by decide)).trans e_168
  have r_38 := (q_174 38 (by decide)).trans r_38
  have r_39 := (q_174 39 (by decide)).trans r_39
  have r_40 := (q_174 40 (by decide)).trans r_40
  have r_41 := (q_174 41 (by decide)).trans r_41
  have r_42 := (q_174 42 (by decide)).trans r_42
  have r_43 := (q_174 43 (by decide)).trans r_43
  have r_44 := (q_174 44 (by decide)).trans r_44
  have r_45 := (q_174 45 (by decide)).trans r_45
  have r_46 := (q_174 46 (by decide)).trans r_46
  have r_47 := (q_174 47 (by decide)).trans r_47
  have r_48 := (q_174 48 (by decide)).trans r_48
  have r_49 := (q_174 49 (by decide)).trans r_49
  have r_50 := (q_174 50 (by decide)).trans r_50
  have r_51 := (q_174 51 (by decide)).trans r_51
  have r_52 := (q_174 52 (by decide)).trans r_52
  have r_53 := (q_174 53 (by decide)).trans r_53
  have r_54 := (q_174 54 (by decide)).trans r_54
  have r_55 := (q_174 55 (by decide)).trans r_55
  have r_56 := (q_174 56 (by decide)).trans r_56
  have r_57 := (q_174 57 (by decide)).trans r_57
  have fr : ∀ j, j < 38 → j ≠ 37 → S_174.1 j = S.1 j := fun j h1 h2 => (q_174 j (Nat.ne_of_lt (Nat.lt_of_lt_of_le h1 (by decide)))).trans (fr j h1 h2)
  have a_174 : S_174.2.1 = 59 := a_174
  have b_174 : S_174.2.2 = 59 := b_174
  refine mz_putF (ci := 9) (j := 30) d_Mo_init_176 rfl w_Mo_76 (by decide) ⟨rfl, rfl, wl_Mo_76⟩ (by rw [a_174]; decide) e_168 (Nat.le_of_ble_eq_true rfl) (⟨rfl, rfl⟩) rfl (fun S_176 a_176 e_176 f_176 => ?_)
  have r_38 := f_176.at r_38 (by decide)
  have r_39 := f_176.at r_39 (by decide)
  have r_40 := f_176.at r_40 (by decide)
  have r_41 := f_176.at r_41 (by decide)
  have r_42 := f_176.at r_42 (by decide)
  have r_43 := f_176.at r_43 (by decide)
  have r_44 := f_176.at r_44 (by decide)
  have r_45 := f_176.at r_45 (by decide)
  have r_46 := f_176.at r_46 (by decide)
  have r_47 := f_176.at r_47 (by decide)
  have r_48 := f_176.at r_48 (by decide)
  have r_49 := f_176.at r_49 (by decide)
  have r_50 := f_176.at r_50 (by decide)
  have r_51 := f_176.at r_51 (by decide)
  have r_52 := f_176.at r_52 (by decide)
  have r_53 := f_176.at r_53 (by decide)
  have r_54 := f_176.at r_54 (by decide)
  have r_55 := f_176.at r_55 (by decide)
  have r_56 := f_176.at r_56 (by decide)
  have r_57 := f_176.at r_57 (by decide)
  have r_58 := f_176.at r_58 (by decide)
  have fr : ∀ j, j < 38 → j ≠ 37 → S_176.1 j = S.1 j := fun j h1 h2 => (f_176.2 j (fun hj => h2 (List.mem_singleton.mp hj))).trans (fr j h1 h2)
  have b_176 : S_176.2.2 = 59 := (congrArg Prod.snd f_176.1).trans b_174
  have a_176 : S_176.2.1 = 59 := a_176.trans a_174
  refine mj_aload_n d_Mo_init_179 rfl ?_
  refine mz_bipush d_Mo_init_180 (by decide) ?_
  refine mz_newA (t := 2) (N := 6) (w := 59) d_Mo_init_182 rfl rfl ac_Z (by decide) (by decide) a_176 b_176 (by decide) (by decide) (by decide) (fun S_182 a_182 b_182 r_59 q_182 => ?_)
  have e_176 := (q_182 37 (by decide)).trans e_176
  have r_38 := (q_182 38 (by decide)).trans r_38
  have r_39 := (q_182 39 (by decide)).trans r_39
  have r_40 := (q_182 40 (by decide)).trans r_40
  have r_41 := (q_182 41 (by decide)).trans r_41
  have r_42 := (q_182 42 (by decide)).trans r_42
  have r_43 := (q_182 43 (by decide)).trans r_43
  have r_44 := (q_182 44 (by decide)).trans r_44
  have r_45 := (q_182 45 (by decide)).trans r_45
  have r_46 := (q_182 46 (by decide)).trans r_46
  have r_47 := (q_182 47 (by decide)).trans r_47
  have r_48 := (q_182 48 (by decide)).trans r_48
  have r_49 := (q_182 49 (by decide)).trans r_49
  have r_50 := (q_182 50 (by decide)).trans r_50
  have r_51 := (q_182 51 (by decide)).trans r_51
  have r_52 := (q_182 52 (by decide)).trans r_52
  have r_53 := (q_182 53 (by decide)).trans r_53
  have r_54 := (q_182 54 (by decide)).trans r_54
  have r_55 := (q_182 55 (by decide)).trans r_55
  have r_56 := (q_182 56 (by decide)).trans r_56
  have r_57 := (q_182 57 (by decide)).trans r_57
  have r_58 := (q_182 58 (by decide)).trans r_58
  have fr : ∀ j, j < 38 → j ≠ 37 → S_182.1 j = S.1 j := fun j h1 h2 => (q_182 j (Nat.ne_of_lt (Nat.lt_of_lt_of_le h1 (by decide)))).trans (fr j h1 h2)
  have a_182 : S_182.2.1 = 60 := a_182
  have b_182 : S_182.2.2 = 60 := b_182
  refine mz_putF (ci := 9) (j := 31) d_Mo_init_184 rfl w_Mo_79 (by decide) ⟨rfl, rfl, wl_Mo_79⟩ (by rw [a_182]; decide) e_176 (Nat.le_of_ble_eq_true rfl) (⟨rfl, rfl⟩) rfl (fun S_184 a_184 e_184 f_184 => ?_)
  have r_38 := f_184.at r_38 (by decide)
  have r_39 := f_184.at r_39 (by decide)
  have r_40 := f_184.at r_40 (by decide)
  have r_41 := f_184.at r_41 (by decide)
  have r_42 := f_184.at r_42 (by decide)
  have r_43 := f_184.at r_43 (by decide)
  have r_44 := f_184.at r_44 (by decide)
  have r_45 := f_184.at r_45 (by decide)
  have r_46 := f_184.at r_46 (by decide)
  have r_47 := f_184.at r_47 (by decide)
  have r_48 := f_184.at r_48 (by decide)
  have r_49 := f_184.at r_49 (by decide)
  have r_50 := f_184.at r_50 (by decide)
  have r_51 := f_184.at r_51 (by decide)
  have r_52 := f_184.at r_52 (by decide)
  have r_53 := f_184.at r_53 (by decide)
  have r_54 := f_184.at r_54 (by decide)
  have r_55 := f_184.at r_55 (by decide)
  have r_56 := f_184.at r_56 (by decide)
  have r_57 := f_184.at r_57 (by decide)
  have r_58 := f_184.at r_58 (by decide)
  have r_59 := f_184.at r_59 (by decide)
  have fr : ∀ j, j < 38 → j ≠ 37 → S_184.1 j = S.1 j := fun j h1 h2 => (f_184.2 j (fun hj => h2 (List.mem_singleton.mp hj))).trans (fr j h1 h2)
  have b_184 : S_184.2.2 = 60 := (congrArg Prod.snd f_184.1).trans b_182
  have a_184 : S_184.2.1 = 60 := a_184.trans a_182
  refine mj_aload_n d_Mo_init_187 rfl ?_
  refine mz_bipush d_Mo_init_188 (by decide) ?_
  refine mz_newA (t := 0) (N := 6) (w := 60) d_Mo_init_190 rfl rfl ac_I (by decide) (by decide) a_184 b_184 (by decide) (by decide) (by decide) (fun S_190 a_190 b_190 r_60 q_190 => ?_)
  have e_184 := (q_190 37 (by decide)).trans e_184
  have r_38 := (q_190 38 (by decide)).trans r_38
  have r_39 := (q_190 39 (by decide)).trans r_39
  have r_40 := (q_190 40 (by decide)).trans r_40
  have r_41 := (q_190 41 (by decide)).trans r_41
  have r_42 := (q_190 42 (by decide)).trans r_42
  have r_43 := (q_190 43 (by decide)).trans r_43
  have r_44 := (q_190 44 (by decide)).trans r_44
  have r_45 := (q_190 45 (by decide)).trans r_45
  have r_46 := (q_190 46 (by decide)).trans r_46
  have r_47 := (q_190 47 (by decide)).trans r_47
  have r_48 := (q_190 48 (by decide)).trans r_48
  have r_49 := (q_190 49 (by decide)).trans r_49
  have r_50 := (q_190 50 (by decide)).trans r_50
  have r_51 := (q_190 51 (by decide)).trans r_51
  have r_52 := (q_190 52 (by decide)).trans r_52
  have r_53 := (q_190 53 (by decide)).trans r_53
  have r_54 := (q_190 54 (by decide)).trans r_54
  have r_55 := (q_190 55 (by decide)).trans r_55
  have r_56 := (q_190 56 (by decide)).trans r_56
  have r_57 := (q_190 57 (by decide)).trans r_57
  have r_58 := (q_190 58 (by decide)).trans r_58
  have r_59 := (q_190 59 (by decide)).trans r_59
  have fr : ∀ j, j < 38 → j ≠ 37 → S_190.1 j = S.1 j := fun j h1 h2 => (q_190 j (Nat.ne_of_lt (Nat.lt_of_lt_of_le h1 (by decide)))).trans (fr j h1 h2)
  have a_190 : S_190.2.1 = 61 := a_190
  have b_190 : S_190.2.2 = 61 := b_190
  refine mz_putF (ci := 9) (j := 32) d_Mo_init_192 rfl w_Mo_82 (by decide) ⟨rfl, rfl, wl_Mo_82⟩ (by rw [a_190]; decide) e_184 (Nat.le_of_ble_eq_true rfl) (⟨rfl, rfl⟩) rfl (fun S_192 a_192 e_192 f_192 => ?_)
  have r_38 := f_192.at r_38 (by decide)
  have r_39 := f_192.at r_39 (by decide)
  have r_40 := f_192.at r_40 (by decide)
  have r_41 := f_192.at r_41 (by decide)
  have r_42 := f_192.at r_42 (by decide)
  have r_43 := f_192.at r_43 (by decide)
  have r_44 := f_192.at r_44 (by decide)
  have r_45 := f_192.at r_45 (by decide)
  have r_46 := f_192.at r_46 (by decide)
  have r_47 := f_192.at r_47 (by decide)
  have r_48 := f_192.at r_48 (by decide)
  have r_49 := f_192.at r_49 (by decide)
  have r_50 := f_192.at r_50 (by decide)
  have r_51 := f_192.at r_51 (by decide)
  have r_52 := f_192.at r_52 (by decide)
  have r_53 := f_192.at r_53 (by decide)
  have r_54 := f_192.at r_54 (by decide)
  have r_55 := f_192.at r_55 (by decide)
  have r_56 := f_192.at r_56 (by decide)
  have r_57 := f_192.at r_57 (by decide)
  have r_58 := f_192.at r_58 (by decide)
  have r_59 := f_192.at r_59 (by decide)
  have r_60 := f_192.at r_60 (by decide)
  have fr : ∀ j, j < 38 → j ≠ 37 → S_192.1 j = S.1 j := fun j h1 h2 => (f_192.2 j (fun hj => h2 (List.mem_singleton.mp hj))).trans (fr j h1 h2)
  have b_192 : S_192.2.2 = 61 := (congrArg Prod.snd f_192.1).trans b_190
  have a_192 : S_192.2.1 = 61 := a_192.trans a_190
  refine mz_vret d_Mo_init_195 rfl ?_
  exact ⟨⟨a_192, b_192, fr⟩, e_192, r_38, r_39, r_40, r_41, r_42, r_43, r_44, r_45, r_46, r_47, r_48, r_49, r_50, r_51, r_52, r_53, r_54, r_55, r_56, r_57, r_58, r_59, r_60⟩
end MK
