/-! what the constructors make -/
/-- a constructor of the object o, w cells being there, has made m more -/
def mj_cg (S S' : mj_S) (o w m : Nat) : Prop := S'.2.1 = w + m ∧ S'.2.2 = w + m ∧ ∀ j, j < w → j ≠ o → S'.1 j = S.1 j
section MK0
variable {Γ : mj_G} {d d1 : Nat} {M M1 : mj_M} {k n pc mc ms : Nat} {lv st : List Value} {S : mj_S} {P : mj_O → mj_S → Prop} {Qv : mj_S → Prop} {y : MethodName}
theorem mz_newo {idx ci w : Nat} {q : vw_C} {fs : List Value} (hd : decode M.cc pc = .ok (.new idx, 3)) (hq : mj_cl[ci]? = some q) (hw1 : (Cond.classLink M.own idx q.1) ∈ mj_tb) (hw2 : (Cond.instantiable q.1 q.2.2) ∈ mj_tb) (hw3 : (Cond.initialized q.1) ∈ mj_tb)
    (hfs : ∀ j, j < q.2.2 → defaultValue (mj_t ci j) = vp_V fs j) (hnr : fs.all (fun v => match v with | .ref _ => false | _ => true) = true) (hS1 : S.2.1 = w) (hS2 : S.2.2 = w) (hwl : w < 1000) (hk : 1 ≤ k) (hn : q.2.2 ≤ n)
    (h : ∀ S1 : mj_S, S1.2.1 = w + 1 → S1.2.2 = w + 1 → S1.1 w = .inr (ci, fs) → (∀ j, j ≠ w → S1.1 j = S.1 j) → mj_Ok Γ d M (k - 1) (n - q.2.2) (pc + 3) lv (.ref w :: st) S1 P) : mj_Ok Γ d M k n pc lv st S P := by
  have w0 := h (mj_push S (.inr (ci, fs))) (by show S.2.1 + 1 = _; rw [hS1]) (by show S.2.2 + 1 = _; rw [hS2]) (by show va_up S.1 S.2.1 _ w = _; rw [hS1, va_up_self]) (fun j hj => by show va_up S.1 S.2.1 _ j = _; rw [hS1, va_up_ne _ _ hj])
  have w1 := mj_new (k := k - 1) (n := n - q.2.2) hd hq hw1 hw2 hw3 hfs hnr (by rw [hS1, hS2]) (by rw [hS1]; show w < 1000000; omega) (by rw [hS1]; exact w0)
  rw [show k - 1 + 1 = k by omega, show n - q.2.2 + q.2.2 = n by omega] at w1
  exact w1
theorem mz_newA {atype : ArrayType} {t N w : Nat} (hd : decode M.cc pc = .ok (.newarray atype, 2)) (hty : newarray.typeOf atype = mj_at t) (ht : (mj_tys Γ)[t]? = some (Γ.cA t, mj_at t)) (hw : (Cond.arrayClass (mj_at t)) ∈ mj_tb) (hN : N < 100000) (hb : N * componentBytes (mj_at t) ≤ 536870912 ∧ defaultValue (mj_at t) = .int 0)
    (hS1 : S.2.1 = w) (hS2 : S.2.2 = w) (hwl : w < 1000) (hk : 1 ≤ k) (hn : N ≤ n)
    (h : ∀ S1 : mj_S, S1.2.1 = w + 1 → S1.2.2 = w + 1 → S1.1 w = .inl (t, N, .inl (mj_z fun _ => 0)) → (∀ j, j ≠ w → S1.1 j = S.1 j) → mj_Ok Γ d M (k - 1) (n - N) (pc + 2) lv (.ref w :: st) S1 P) : mj_Ok Γ d M k n pc lv (.int (iZ (N : Int)) :: st) S P := by
  have w0 := h (mj_push S (.inl (t, N, .inl (mj_z fun _ => 0)))) (by show S.2.1 + 1 = _; rw [hS1]) (by show S.2.2 + 1 = _; rw [hS2]) (by show va_up S.1 S.2.1 _ w = _; rw [hS1, va_up_self]) (fun j hj => by show va_up S.1 S.2.1 _ j = _; rw [hS1, va_up_ne _ _ hj])
  have w1 := mj_newa (k := k - 1) (n := n - N) (i := iZ (N : Int)) (a0 := (N, .inl (mj_z fun _ => 0))) hd hty ht hw rfl hN hb.1 (fun cA => by rw [vp_cell_i, hb.2]; rfl) (by rw [hS1, hS2]) (by rw [hS1]; show w < 1000000; omega) (by rw [hS1]; exact w0)
  rw [show k - 1 + 1 = k by omega, show n - N + N = n by omega] at w1
  exact w1
theorem mz_ctor {idx a : Nat} (hd : decode M.cc pc = .ok (.invokespecial idx, 3)) (hM : mj_Met Γ d1 y M1 (.ref a :: []) S mc ms (mj_V Qv)) (hcw : mj_cw y M1 0) (hw : Cond.methodLink M.own idx y ∈ mj_tb ∧ Cond.instanceMethod y ∈ mj_tb ∧ y.name = "<init>") (hrn : M1.ret = none)
    (hd1 : d1 < d) (hst : Nat.ble (st.map fun v => v.category).sum 8 = true) (hk0 : mc ≤ k) (hn0 : ms ≤ n)
    (hk : ∀ S1 : mj_S, Qv S1 → mj_Ok Γ d M (k - mc) (n - ms) (pc + 3) lv st S1 P) : mj_Ok Γ d M k n pc lv (.ref a :: st) S P := by
  have w := mz_callI0v (k := k - mc) (n := n - ms) hd hM hcw hw hrn hd1 hst hk
  rw [show k - mc + mc = k by omega, show n - ms + ms = n by omega] at w
  exact w
theorem mz_ctorN {idx a : Nat} (hd : decode M.cc pc = .ok (.invokespecial idx, 3)) (hM : mj_Met Γ d1 y M1 (.ref a :: []) S mc ms (mj_V Qv)) (hcw : mj_cw y M1 0) (hw : Cond.methodLinkNest M.own idx y "IsomerList" ∈ lw_tbl ∧ Cond.instanceMethod y ∈ mj_tb ∧ y.name = "<init>") (hrn : M1.ret = none)
    (hd1 : d1 < d) (hst : Nat.ble (st.map fun v => v.category).sum 8 = true) (hk0 : mc ≤ k) (hn0 : ms ≤ n)
    (hk : ∀ S1 : mj_S, Qv S1 → mj_Ok Γ d M (k - mc) (n - ms) (pc + 3) lv st S1 P) : mj_Ok Γ d M k n pc lv (.ref a :: st) S P := by
  have w := mz_callIN0v (k := k - mc) (n := n - ms) hd hM hcw hw hrn hd1 hst hk
  rw [show k - mc + mc = k by omega, show n - ms + ms = n by omega] at w
  exact w
theorem mz_ctor2 {idx a : Nat} {v1 v2 : Value} (hd : decode M.cc pc = .ok (.invokespecial idx, 3)) (hM : mj_Met Γ d1 y M1 (.ref a :: [v1, v2]) S mc ms (mj_V Qv)) (hcw : mj_cw y M1 2) (hw : Cond.methodLink M.own idx y ∈ mj_tb ∧ Cond.instanceMethod y ∈ mj_tb ∧ y.name = "<init>") (hrn : M1.ret = none)
    (hd1 : d1 < d) (hst : Nat.ble (st.map fun v => v.category).sum 8 = true) (hk0 : mc ≤ k) (hn0 : ms ≤ n)
    (hk : ∀ S1 : mj_S, Qv S1 → mj_Ok Γ d M (k - mc) (n - ms) (pc + 3) lv st S1 P) : mj_Ok Γ d M k n pc lv (v2 :: v1 :: .ref a :: st) S P := by
  have w : mj_Ok Γ d M (k - mc + mc) (n - ms + ms) pc lv (v2 :: v1 :: .ref a :: st) S P := mj_callI (As := [v1, v2]) (k := k - mc) (n := n - ms) hd hM hcw hw hrn hd1 hst (fun r S1 ⟨e, q⟩ => by subst e; exact hk S1 q)
  rw [show k - mc + mc = k by omega, show n - ms + ms = n by omega] at w
  exact w
end MK0
theorem nw_Lw_8 : Cond.classLink "IsomerListLaw" 8 "IsomerList" ∈ mj_tb := mj_mem 76 (by decide +kernel) (by decide +kernel)
theorem nw_IL_7 : Cond.classLink "IsomerList" 7 "IsomerList$Line" ∈ mj_tb := mj_mem 84 (by decide +kernel) (by decide +kernel)
theorem nw_IL_16 : Cond.classLink "IsomerList" 16 "IsomerList$FormulaReader" ∈ mj_tb := mj_mem 101 (by decide +kernel) (by decide +kernel)
theorem nw_IL_23 : Cond.classLink "IsomerList" 23 "IsomerList$TextReader" ∈ mj_tb := mj_mem 117 (by decide +kernel) (by decide +kernel)
theorem nw_Tr_9 : Cond.classLink "IsomerList$TextReader" 9 "IsomerList$Molecule" ∈ mj_tb := mj_mem 123 (by decide +kernel) (by decide +kernel)
theorem nw_IL_30 : Cond.classLink "IsomerList" 30 "IsomerList$TextWriter" ∈ mj_tb := mj_mem 180 (by decide +kernel) (by decide +kernel)
theorem nw_IL_37 : Cond.classLink "IsomerList" 37 "IsomerList$Numbering" ∈ mj_tb := mj_mem 199 (by decide +kernel) (by decide +kernel)
theorem nw_IL_44 : Cond.classLink "IsomerList" 44 "IsomerList$Lister" ∈ mj_tb := mj_mem 224 (by decide +kernel) (by decide +kernel)
theorem nw_Ls_9 : Cond.classLink "IsomerList$Lister" 9 "IsomerList$Catalogue" ∈ mj_tb := mj_mem 230 (by decide +kernel) (by decide +kernel)
theorem nw_Ls_18 : Cond.classLink "IsomerList$Lister" 18 "IsomerList$Numbering" ∈ mj_tb := mj_mem 261 (by decide +kernel) (by decide +kernel)
theorem nw_Ls_25 : Cond.classLink "IsomerList$Lister" 25 "IsomerList$Molecule" ∈ mj_tb := mj_mem 263 (by decide +kernel) (by decide +kernel)
theorem nw_IL_51 : Cond.classLink "IsomerList" 51 "IsomerList$Molecule" ∈ mj_tb := mj_mem 282 (by decide +kernel) (by decide +kernel)
theorem nw_IL_58 : Cond.classLink "IsomerList" 58 "IsomerList$Catalogue" ∈ mj_tb := mj_mem 284 (by decide +kernel) (by decide +kernel)
theorem nw_Lw_36 : Cond.classLink "IsomerListLaw" 36 "IsomerListModel" ∈ mj_tb := mj_mem 746 (by decide +kernel) (by decide +kernel)
theorem ia_IL : Cond.instantiable "IsomerList" 9 ∈ mj_tb := mj_mem 77 (by decide +kernel) (by decide +kernel)
theorem ia_Ln : Cond.instantiable "IsomerList$Line" 2 ∈ mj_tb := mj_mem 85 (by decide +kernel) (by decide +kernel)
theorem ia_Fr : Cond.instantiable "IsomerList$FormulaReader" 2 ∈ mj_tb := mj_mem 102 (by decide +kernel) (by decide +kernel)
theorem ia_Tr : Cond.instantiable "IsomerList$TextReader" 8 ∈ mj_tb := mj_mem 118 (by decide +kernel) (by decide +kernel)
theorem ia_Ml : Cond.instantiable "IsomerList$Molecule" 4 ∈ mj_tb := mj_mem 124 (by decide +kernel) (by decide +kernel)
theorem ia_Tw : Cond.instantiable "IsomerList$TextWriter" 4 ∈ mj_tb := mj_mem 181 (by decide +kernel) (by decide +kernel)
theorem ia_Nu : Cond.instantiable "IsomerList$Numbering" 5 ∈ mj_tb := mj_mem 200 (by decide +kernel) (by decide +kernel)
theorem ia_Ls : Cond.instantiable "IsomerList$Lister" 5 ∈ mj_tb := mj_mem 225 (by decide +kernel) (by decide +kernel)
theorem ia_Ca : Cond.instantiable "IsomerList$Catalogue" 5 ∈ mj_tb := mj_mem 231 (by decide +kernel) (by decide +kernel)
theorem ia_Mo : Cond.instantiable "IsomerListModel" 33 ∈ mj_tb := mj_mem 747 (by decide +kernel) (by decide +kernel)
theorem ac_I : Cond.arrayClass .int ∈ mj_tb := mj_mem 116 (by decide +kernel) (by decide +kernel)
theorem ac_C : Cond.arrayClass .char ∈ mj_tb := mj_mem 100 (by decide +kernel) (by decide +kernel)
theorem ac_Z : Cond.arrayClass .boolean ∈ mj_tb := mj_mem 223 (by decide +kernel) (by decide +kernel)
theorem ac_J : Cond.arrayClass .long ∈ mj_tb := mj_mem 1025 (by decide +kernel) (by decide +kernel)
theorem oi_IL : Cond.methodLink "IsomerList" 1 objectInit ∈ mj_tb := mj_mem 81 (by decide +kernel) (by decide +kernel)
theorem oi_Ln : Cond.methodLink "IsomerList$Line" 3 objectInit ∈ mj_tb := mj_mem 89 (by decide +kernel) (by decide +kernel)
theorem oi_Fr : Cond.methodLink "IsomerList$FormulaReader" 3 objectInit ∈ mj_tb := mj_mem 106 (by decide +kernel) (by decide +kernel)
theorem oi_Tr : Cond.methodLink "IsomerList$TextReader" 3 objectInit ∈ mj_tb := mj_mem 122 (by decide +kernel) (by decide +kernel)
theorem oi_Ml : Cond.methodLink "IsomerList$Molecule" 3 objectInit ∈ mj_tb := mj_mem 128 (by decide +kernel) (by decide +kernel)
theorem oi_Tw : Cond.methodLink "IsomerList$TextWriter" 3 objectInit ∈ mj_tb := mj_mem 185 (by decide +kernel) (by decide +kernel)
theorem oi_Nu : Cond.methodLink "IsomerList$Numbering" 3 objectInit ∈ mj_tb := mj_mem 204 (by decide +kernel) (by decide +kernel)
theorem oi_Ls : Cond.methodLink "IsomerList$Lister" 3 objectInit ∈ mj_tb := mj_mem 229 (by decide +kernel) (by decide +kernel)
theorem oi_Ca : Cond.methodLink "IsomerList$Catalogue" 3 objectInit ∈ mj_tb := mj_mem 235 (by decide +kernel) (by decide +kernel)
theorem oi_Mo : Cond.methodLink "IsomerListModel" 1 objectInit ∈ mj_tb := mj_mem 751 (by decide +kernel) (by decide +kernel)
theorem oi_m : Cond.instanceMethod objectInit ∈ mj_tb := mj_mem 82 (by decide +kernel) (by decide +kernel)
theorem oi_c : Cond.code objectInit ⟨#[0xb1]⟩ 1 none ∈ mj_tb := mj_mem 83 (by decide +kernel) (by decide +kernel)
theorem mj_obj_IL : Cond.methodLink (M_IL_init).own 1 objectInit ∈ mj_tb ∧ Cond.instanceMethod objectInit ∈ mj_tb ∧ Cond.code objectInit ⟨#[0xb1]⟩ 1 none ∈ mj_tb := ⟨oi_IL, oi_m, oi_c⟩
theorem mj_obj_Ln : Cond.methodLink (M_Ln_init).own 3 objectInit ∈ mj_tb ∧ Cond.instanceMethod objectInit ∈ mj_tb ∧ Cond.code objectInit ⟨#[0xb1]⟩ 1 none ∈ mj_tb := ⟨oi_Ln, oi_m, oi_c⟩
theorem mj_obj_Fr : Cond.methodLink (M_Fr_init).own 3 objectInit ∈ mj_tb ∧ Cond.instanceMethod objectInit ∈ mj_tb ∧ Cond.code objectInit ⟨#[0xb1]⟩ 1 none ∈ mj_tb := ⟨oi_Fr, oi_m, oi_c⟩
theorem mj_obj_Tr : Cond.methodLink (M_Tr_init).own 3 objectInit ∈ mj_tb ∧ Cond.instanceMethod objectInit ∈ mj_tb ∧ Cond.code objectInit ⟨#[0xb1]⟩ 1 none ∈ mj_tb := ⟨oi_Tr, oi_m, oi_c⟩
theorem mj_obj_Ml : Cond.methodLink (M_Ml_init).own 3 objectInit ∈ mj_tb ∧ Cond.instanceMethod objectInit ∈ mj_tb ∧ Cond.code objectInit ⟨#[0xb1]⟩ 1 none ∈ mj_tb := ⟨oi_Ml, oi_m, oi_c⟩
theorem mj_obj_Tw : Cond.methodLink (M_Tw_init).own 3 objectInit ∈ mj_tb ∧ Cond.instanceMethod objectInit ∈ mj_tb ∧ Cond.code objectInit ⟨#[0xb1]⟩ 1 none ∈ mj_tb := ⟨oi_Tw, oi_m, oi_c⟩
theorem mj_obj_Nu : Cond.methodLink (M_Nu_init).own 3 objectInit ∈ mj_tb ∧ Cond.instanceMethod objectInit ∈ mj_tb ∧ Cond.code objectInit ⟨#[0xb1]⟩ 1 none ∈ mj_tb := ⟨oi_Nu, oi_m, oi_c⟩
theorem mj_obj_Ls : Cond.methodLink (M_Ls_init).own 3 objectInit ∈ mj_tb ∧ Cond.instanceMethod objectInit ∈ mj_tb ∧ Cond.code objectInit ⟨#[0xb1]⟩ 1 none ∈ mj_tb := ⟨oi_Ls, oi_m, oi_c⟩
theorem mj_obj_Ca : Cond.methodLink (M_Ca_init).own 3 objectInit ∈ mj_tb ∧ Cond.instanceMethod objectInit ∈ mj_tb ∧ Cond.code objectInit ⟨#[0xb1]⟩ 1 none ∈ mj_tb := ⟨oi_Ca, oi_m, oi_c⟩
theorem mj_obj_Mo : Cond.methodLink (M_Mo_init).own 1 objectInit ∈ mj_tb ∧ Cond.instanceMethod objectInit ∈ mj_tb ∧ Cond.code objectInit ⟨#[0xb1]⟩ 1 none ∈ mj_tb := ⟨oi_Mo, oi_m, oi_c⟩
section MK
variable {Γ : mj_G} {d : Nat}
theorem m_Ln_init {o w : Nat} {S : mj_S} (hS1 : S.2.1 = w) (hS2 : S.2.2 = w) (ho : o < w) (hwl : w < 500) (he : S.1 o = .inr (1, [.null, .int (iZ 0)])) (hd : 1 ≤ d) : mj_Met Γ d y_Ln_init M_Ln_init [.ref o] S 1 60 (mj_V fun S' => mj_cg S S' o w 1 ∧ S'.1 o = .inr (1, [.ref w, .int (iZ 0)]) ∧ S'.1 (w) = .inl (1, 60, .inl (mj_z fun _ => 0))) := by
  refine mj_Met.of (by decide) ⟨rfl, rfl⟩ rfl rfl rfl ?_
  refine mj_aload_n d_Ln_init_0 rfl ?_
  refine mj_objInit d_Ln_init_1 mj_obj_Ln (by omega) rfl ?_
  refine mj_aload_n d_Ln_init_4 rfl ?_
  refine mz_bipush d_Ln_init_5 (by decide) ?_
  refine mz_newA (t := 1) (N := 60) (w := w) d_Ln_init_7 rfl rfl ac_C (by decide) (by decide) hS1 hS2 (by omega) (by decide) (by decide) (fun S_7 a_7 b_7 r_0 q_7 => ?_)
  have he := (q_7 o (by omega)).trans he
  have fr : ∀ j, j < w → j ≠ o → S_7.1 j = S.1 j := fun j h1 h2 => (q_7 j (by omega))
  have a_7 : S_7.2.1 = w + 1 := a_7.trans (by omega)
  have b_7 : S_7.2.2 = w + 1 := b_7.trans (by omega)
  refine mz_putF (ci := 1) (j := 0) d_Ln_init_9 rfl w_Ln_9 (by decide) ⟨rfl, rfl, wl_Ln_9⟩ (by omega) he (Nat.le_of_ble_eq_true rfl) (⟨rfl, rfl⟩) rfl (fun S_9 a_9 e_9 f_9 => ?_)
  have r_0 := f_9.at r_0 (by simp; omega)
  have fr : ∀ j, j < w → j ≠ o → S_9.1 j = S.1 j := fun j h1 h2 => (f_9.2 j (by simp; omega)).trans (fr j h1 h2)
  have b_9 : S_9.2.2 = w + 1 := (congrArg Prod.snd f_9.1).trans b_7
  have a_9 : S_9.2.1 = w + 1 := a_9.trans a_7
  refine mz_vret d_Ln_init_12 rfl ?_
  exact ⟨⟨a_9, b_9, fr⟩, e_9, r_0⟩
theorem m_Fr_init {o w : Nat} {S : mj_S} (hS1 : S.2.1 = w) (hS2 : S.2.2 = w) (ho : o < w) (hwl : w < 500) (he : S.1 o = .inr (2, [.null, .int (iZ 0)])) (hd : 1 ≤ d) : mj_Met Γ d y_Fr_init M_Fr_init [.ref o] S 1 10 (mj_V fun S' => mj_cg S S' o w 1 ∧ S'.1 o = .inr (2, [.ref w, .int (iZ 0)]) ∧ S'.1 (w) = .inl (0, 10, .inl (mj_z fun _ => 0))) := by
  refine mj_Met.of (by decide) ⟨rfl, rfl⟩ rfl rfl rfl ?_
  refine mj_aload_n d_Fr_init_0 rfl ?_
  refine mj_objInit d_Fr_init_1 mj_obj_Fr (by omega) rfl ?_
  refine mj_aload_n d_Fr_init_4 rfl ?_
  refine mz_bipush d_Fr_init_5 (by decide) ?_
  refine mz_newA (t := 0) (N := 10) (w := w) d_Fr_init_7 rfl rfl ac_I (by decide) (by decide) hS1 hS2 (by omega) (by decide) (by decide) (fun S_7 a_7 b_7 r_0 q_7 => ?_)
  have he := (q_7 o (by omega)).trans he
  have fr : ∀ j, j < w → j ≠ o → S_7.1 j = S.1 j := fun j h1 h2 => (q_7 j (by omega))
  have a_7 : S_7.2.1 = w + 1 := a_7.trans (by omega)
  have b_7 : S_7.2.2 = w + 1 := b_7.trans (by omega)
  refine mz_putF (ci := 2) (j := 0) d_Fr_init_9 rfl w_Fr_9 (by decide) ⟨rfl, rfl, wl_Fr_9⟩ (by omega) he (Nat.le_of_ble_eq_true rfl) (⟨rfl, rfl⟩) rfl (fun S_9 a_9 e_9 f_9 => ?_)
  have r_0 := f_9.at r_0 (by simp; omega)
  have fr : ∀ j, j < w → j ≠ o → S_9.1 j = S.1 j := fun j h1 h2 => (f_9.2 j (by simp; omega)).trans (fr j h1 h2)
  have b_9 : S_9.2.2 = w + 1 := (congrArg Prod.snd f_9.1).trans b_7
  have a_9 : S_9.2.1 = w + 1 := a_9.trans a_7
  refine mz_vret d_Fr_init_12 rfl ?_
  exact ⟨⟨a_9, b_9, fr⟩, e_9, r_0⟩
theorem m_Ml_init {o w : Nat} {S : mj_S} (hS1 : S.2.1 = w) (hS2 : S.2.2 = w) (ho : o < w) (hwl : w < 500) (he : S.1 o = .inr (4, [.null, .null, .null, .int (iZ 0)])) (hd : 1 ≤ d) : mj_Met Γ d y_Ml_init M_Ml_init [.ref o] S 3 48 (mj_V fun S' => mj_cg S S' o w 3 ∧ S'.1 o = .inr (4, [.ref w, .ref (w + 1), .ref (w + 2), .int (iZ 0)]) ∧ S'.1 (w) = .inl (0, 6, .inl (mj_z fun _ => 0)) ∧ S'.1 (w + 1) = .inl (0, 6, .inl (mj_z fun _ => 0)) ∧ S'.1 (w + 2) = .inl (0, 36, .inl (mj_z fun _ => 0))) := by
  refine mj_Met.of (by decide) ⟨rfl, rfl⟩ rfl rfl rfl ?_
  refine mj_aload_n d_Ml_init_0 rfl ?_
  refine mj_objInit d_Ml_init_1 mj_obj_Ml (by omega) rfl ?_
  refine mj_aload_n d_Ml_init_4 rfl ?_
  refine mz_bipush d_Ml_init_5 (by decide) ?_
  refine mz_newA (t := 0) (N := 6) (w := w) d_Ml_init_7 rfl rfl ac_I (by decide) (by decide) hS1 hS2 (by omega) (by decide) (by decide) (fun S_7 a_7 b_7 r_0 q_7 => ?_)
  have he := (q_7 o (by omega)).trans he
  have fr : ∀ j, j < w → j ≠ o → S_7.1 j = S.1 j := fun j h1 h2 => (q_7 j (by omega))
  have a_7 : S_7.2.1 = w + 1 := a_7.trans (by omega)
  have b_7 : S_7.2.2 = w + 1 := b_7.trans (by omega)
  refine mz_putF (ci := 4) (j := 0) d_Ml_init_9 rfl w_Ml_9 (by decide) ⟨rfl, rfl, wl_Ml_9⟩ (by omega) he (Nat.le_of_ble_eq_true rfl) (⟨rfl, rfl⟩) rfl (fun S_9 a_9 e_9 f_9 => ?_)
  have r_0 := f_9.at r_0 (by simp; omega)
  have fr : ∀ j, j < w → j ≠ o → S_9.1 j = S.1 j := fun j h1 h2 => (f_9.2 j (by simp; omega)).trans (fr j h1 h2)
  have b_9 : S_9.2.2 = w + 1 := (congrArg Prod.snd f_9.1).trans b_7
  have a_9 : S_9.2.1 = w + 1 := a_9.trans a_7
  refine mj_aload_n d_Ml_init_12 rfl ?_
  refine mz_bipush d_Ml_init_13 (by decide) ?_
  refine mz_newA (t := 0) (N := 6) (w := w + 1) d_Ml_init_15 rfl rfl ac_I (by decide) (by decide) a_9 b_9 (by omega) (by decide) (by decide) (fun S_15 a_15 b_15 r_1 q_15 => ?_)
  have e_9 := (q_15 o (by omega)).trans e_9
  have r_0 := (q_15 (w) (by omega)).trans r_0
  have fr : ∀ j, j < w → j ≠ o → S_15.1 j = S.1 j := fun j h1 h2 => (q_15 j (by omega)).trans (fr j h1 h2)
  have a_15 : S_15.2.1 = w + 2 := a_15.trans (by omega)
  have b_15 : S_15.2.2 = w + 2 := b_15.trans (by omega)
  refine mz_putF (ci := 4) (j := 1) d_Ml_init_17 rfl w_Ml_15 (by decide) ⟨rfl, rfl, wl_Ml_15⟩ (by omega) e_9 (Nat.le_of_ble_eq_true rfl) (⟨rfl, rfl⟩) rfl (fun S_17 a_17 e_17 f_17 => ?_)
  have r_0 := f_17.at r_0 (by simp; omega)
  have r_1 := f_17.at r_1 (by simp; omega)
  have fr : ∀ j, j < w → j ≠ o → S_17.1 j = S.1 j := fun j h1 h2 => (f_17.2 j (by simp; omega)).trans (fr j h1 h2)
  have b_17 : S_17.2.2 = w + 2 := (congrArg Prod.snd f_17.1).trans b_15
  have a_17 : S_17.2.1 = w + 2 := a_17.trans a_15
  refine mj_aload_n d_Ml_init_20 rfl ?_
  refine mz_bipush d_Ml_init_21 (by decide) ?_
  refine mz_newA (t := 0) (N := 36) (w := w + 2) d_Ml_init_23 rfl rfl ac_I (by decide) (by decide) a_17 b_17 (by omega) (by decide) (by decide) (fun S_23 a_23 b_23 r_2 q_23 => ?_)
  have e_17 := (q_23 o (by omega)).trans e_17
  have r_0 := (q_23 (w) (by omega)).trans r_0
  have r_1 := (q_23 (w + 1) (by omega)).trans r_1
  have fr : ∀ j, j < w → j ≠ o → S_23.1 j = S.1 j := fun j h1 h2 => (q_23 j (by omega)).trans (fr j h1 h2)
  have a_23 : S_23.2.1 = w + 3 := a_23.trans (by omega)
  have b_23 : S_23.2.2 = w + 3 := b_23.trans (by omega)
  refine mz_putF (ci := 4) (j := 2) d_Ml_init_25 rfl w_Ml_18 (by decide) ⟨rfl, rfl, wl_Ml_18⟩ (by omega) e_17 (Nat.le_of_ble_eq_true rfl) (⟨rfl, rfl⟩) rfl (fun S_25 a_25 e_25 f_25 => ?_)
  have r_0 := f_25.at r_0 (by simp; omega)
  have r_1 := f_25.at r_1 (by simp; omega)
  have r_2 := f_25.at r_2 (by simp; omega)
  have fr : ∀ j, j < w → j ≠ o → S_25.1 j = S.1 j := fun j h1 h2 => (f_25.2 j (by simp; omega)).trans (fr j h1 h2)
  have b_25 : S_25.2.2 = w + 3 := (congrArg Prod.snd f_25.1).trans b_23
  have a_25 : S_25.2.1 = w + 3 := a_25.trans a_23
  refine mz_vret d_Ml_init_28 rfl ?_
  exact ⟨⟨a_25, b_25, fr⟩, e_25, r_0, r_1, r_2⟩
theorem m_Nu_init {o w : Nat} {S : mj_S} (hS1 : S.2.1 = w) (hS2 : S.2.2 = w) (ho : o < w) (hwl : w < 500) (he : S.1 o = .inr (6, [.null, .null, .int (iZ 0), .int (iZ 0), .int (iZ 0)])) (hd : 1 ≤ d) : mj_Met Γ d y_Nu_init M_Nu_init [.ref o] S 2 12 (mj_V fun S' => mj_cg S S' o w 2 ∧ S'.1 o = .inr (6, [.ref w, .ref (w + 1), .int (iZ 0), .int (iZ 0), .int (iZ 0)]) ∧ S'.1 (w) = .inl (0, 6, .inl (mj_z fun _ => 0)) ∧ S'.1 (w + 1) = .inl (2, 6, .inl (mj_z fun _ => 0))) := by
  refine mj_Met.of (by decide) ⟨rfl, rfl⟩ rfl rfl rfl ?_
  refine mj_aload_n d_Nu_init_0 rfl ?_
  refine mj_objInit d_Nu_init_1 mj_obj_Nu (by omega) rfl ?_
  refine mj_aload_n d_Nu_init_4 rfl ?_
  refine mz_bipush d_Nu_init_5 (by decide) ?_
  refine mz_newA (t := 0) (N := 6) (w := w) d_Nu_init_7 rfl rfl ac_I (by decide) (by decide) hS1 hS2 (by omega) (by decide) (by decide) (fun S_7 a_7 b_7 r_0 q_7 => ?_)
  have he := (q_7 o (by omega)).trans he
  have fr : ∀ j, j < w → j ≠ o → S_7.1 j = S.1 j := fun j h1 h2 => (q_7 j (by omega))
  have a_7 : S_7.2.1 = w + 1 := a_7.trans (by omega)
  have b_7 : S_7.2.2 = w + 1 := b_7.trans (by omega)
  refine mz_putF (ci := 6) (j := 0) d_Nu_init_9 rfl w_Nu_9 (by decide) ⟨rfl, rfl, wl_Nu_9⟩ (by omega) he (Nat.le_of_ble_eq_true rfl) (⟨rfl, rfl⟩) rfl (fun S_9 a_9 e_9 f_9 => ?_)
  have r_0 := f_9.at r_0 (by simp; omega)
  have fr : ∀ j, j < w → j ≠ o → S_9.1 j = S.1 j := fun j h1 h2 => (f_9.2 j (by simp; omega)).trans (fr j h1 h2)
  have b_9 : S_9.2.2 = w + 1 := (congrArg Prod.snd f_9.1).trans b_7
  have a_9 : S_9.2.1 = w + 1 := a_9.trans a_7
  refine mj_aload_n d_Nu_init_12 rfl ?_
  refine mz_bipush d_Nu_init_13 (by decide) ?_
  refine mz_newA (t := 2) (N := 6) (w := w + 1) d_Nu_init_15 rfl rfl ac_Z (by decide) (by decide) a_9 b_9 (by omega) (by decide) (by decide) (fun S_15 a_15 b_15 r_1 q_15 => ?_)
  have e_9 := (q_15 o (by omega)).trans e_9
  have r_0 := (q_15 (w) (by omega)).trans r_0
  have fr : ∀ j, j < w → j ≠ o → S_15.1 j = S.1 j := fun j h1 h2 => (q_15 j (by omega)).trans (fr j h1 h2)
  have a_15 : S_15.2.1 = w + 2 := a_15.trans (by omega)
  have b_15 : S_15.2.2 = w + 2 := b_15.trans (by omega)
  refine mz_putF (ci := 6) (j := 1) d_Nu_init_17 rfl w_Nu_15 (by decide) ⟨rfl, rfl, wl_Nu_15⟩ (by omega) e_9 (Nat.le_of_ble_eq_true rfl) (⟨rfl, rfl⟩) rfl (fun S_17 a_17 e_17 f_17 => ?_)
  have r_0 := f_17.at r_0 (by simp; omega)
  have r_1 := f_17.at r_1 (by simp; omega)
  have fr : ∀ j, j < w → j ≠ o → S_17.1 j = S.1 j := fun j h1 h2 => (f_17.2 j (by simp; omega)).trans (fr j h1 h2)
  have b_17 : S_17.2.2 = w + 2 := (congrArg Prod.snd f_17.1).trans b_15
  have a_17 : S_17.2.1 = w + 2 := a_17.trans a_15
  refine mz_vret d_Nu_init_20 rfl ?_
  exact ⟨⟨a_17, b_17, fr⟩, e_17, r_0, r_1⟩
theorem m_Ca_init {o w : Nat} {S : mj_S} (hS1 : S.2.1 = w) (hS2 : S.2.2 = w) (ho : o < w) (hwl : w < 500) (he : S.1 o = .inr (8, [.null, .null, .int (iZ 0), .int (iZ 0), .int (iZ 0)])) (hd : 1 ≤ d) : mj_Met Γ d y_Ca_init M_Ca_init [.ref o] S 2 506 (mj_V fun S' => mj_cg S S' o w 2 ∧ S'.1 o = .inr (8, [.ref w, .ref (w + 1), .int (iZ 0), .int (iZ 0), .int (iZ 0)]) ∧ S'.1 (w) = .inl (0, 6, .inl (mj_z fun _ => 0)) ∧ S'.1 (w + 1) = .inl (0, 500, .inl (mj_z fun _ => 0))) := by
  refine mj_Met.of (by decide) ⟨rfl, rfl⟩ rfl rfl rfl ?_
  refine mj_aload_n d_Ca_init_0 rfl ?_
  refine mj_objInit d_Ca_init_1 mj_obj_Ca (by omega) rfl ?_
  refine mj_aload_n d_Ca_init_4 rfl ?_
  refine mz_bipush d_Ca_init_5 (by decide) ?_
  refine mz_newA (t := 0) (N := 6) (w := w) d_Ca_init_7 rfl rfl ac_I (by decide) (by decide) hS1 hS2 (by omega) (by decide) (by decide) (fun S_7 a_7 b_7 r_0 q_7 => ?_)
  have he := (q_7 o (by omega)).trans he
  have fr : ∀ j, j < w → j ≠ o → S_7.1 j = S.1 j := fun j h1 h2 => (q_7 j (by omega))
  have a_7 : S_7.2.1 = w + 1 := a_7.trans (by omega)
  have b_7 : S_7.2.2 = w + 1 := b_7.trans (by omega)
  refine mz_putF (ci := 8) (j := 0) d_Ca_init_9 rfl w_Ca_9 (by decide) ⟨rfl, rfl, wl_Ca_9⟩ (by omega) he (Nat.le_of_ble_eq_true rfl) (⟨rfl, rfl⟩) rfl (fun S_9 a_9 e_9 f_9 => ?_)
  have r_0 := f_9.at r_0 (by simp; omega)
  have fr : ∀ j, j < w → j ≠ o → S_9.1 j = S.1 j := fun j h1 h2 => (f_9.2 j (by simp; omega)).trans (fr j h1 h2)
  have b_9 : S_9.2.2 = w + 1 := (congrArg Prod.snd f_9.1).trans b_7
  have a_9 : S_9.2.1 = w + 1 := a_9.trans a_7
  refine mj_aload_n d_Ca_init_12 rfl ?_
  refine mz_sipush d_Ca_init_13 (by decide) ?_
  refine mz_newA (t := 0) (N := 500) (w := w + 1) d_Ca_init_16 rfl rfl ac_I (by decide) (by decide) a_9 b_9 (by omega) (by decide) (by decide) (fun S_16 a_16 b_16 r_1 q_16 => ?_)
  have e_9 := (q_16 o (by omega)).trans e_9
  have r_0 := (q_16 (w) (by omega)).trans r_0
  have fr : ∀ j, j < w → j ≠ o → S_16.1 j = S.1 j := fun j h1 h2 => (q_16 j (by omega)).trans (fr j h1 h2)
  have a_16 : S_16.2.1 = w + 2 := a_16.trans (by omega)
  have b_16 : S_16.2.2 = w + 2 := b_16.trans (by omega)
  refine mz_putF (ci := 8) (j := 1) d_Ca_init_18 rfl w_Ca_15 (by decide) ⟨rfl, rfl, wl_Ca_15⟩ (by omega) e_9 (Nat.le_of_ble_eq_true rfl) (⟨rfl, rfl⟩) rfl (fun S_18 a_18 e_18 f_18 => ?_)
  have r_0 := f_18.at r_0 (by simp; omega)
  have r_1 := f_18.at r_1 (by simp; omega)
  have fr : ∀ j, j < w → j ≠ o → S_18.1 j = S.1 j := fun j h1 h2 => (f_18.2 j (by simp; omega)).trans (fr j h1 h2)
  have b_18 : S_18.2.2 = w + 2 := (congrArg Prod.snd f_18.1).trans b_16
  have a_18 : S_18.2.1 = w + 2 := a_18.trans a_16
  refine mz_vret d_Ca_init_21 rfl ?_
  exact ⟨⟨a_18, b_18, fr⟩, e_18, r_0, r_1⟩
theorem m_Tw_init {o w : Nat} {S : mj_S} (hS1 : S.2.1 = w) (hS2 : S.2.2 = w) (ho : o < w) (hwl : w < 500) (he : S.1 o = .inr (5, [.null, .null, .null, .int (iZ 0)])) (hd : 1 ≤ d) : mj_Met Γ d y_Tw_init M_Tw_init [.ref o] S 3 26 (mj_V fun S' => mj_cg S S' o w 3 ∧ S'.1 o = .inr (5, [.ref w, .ref (w + 1), .ref (w + 2), .int (iZ 0)]) ∧ S'.1 (w) = .inl (0, 6, .inl (mj_z fun _ => 0)) ∧ S'.1 (w + 1) = .inl (0, 10, .inl (mj_z fun _ => 0)) ∧ S'.1 (w + 2) = .inl (0, 10, .inl (mj_z fun _ => 0))) := by
  refine mj_Met.of (by decide) ⟨rfl, rfl⟩ rfl rfl rfl ?_
  refine mj_aload_n d_Tw_init_0 rfl ?_
  refine mj_objInit d_Tw_init_1 mj_obj_Tw (by omega) rfl ?_
  refine mj_aload_n d_Tw_init_4 rfl ?_
  refine mz_bipush d_Tw_init_5 (by decide) ?_
  refine mz_newA (t := 0) (N := 6) (w := w) d_Tw_init_7 rfl rfl ac_I (by decide) (by decide) hS1 hS2 (by omega) (by decide) (by decide) (fun S_7 a_7 b_7 r_0 q_7 => ?_)
  have he := (q_7 o (by omega)).trans he
  have fr : ∀ j, j < w → j ≠ o → S_7.1 j = S.1 j := fun j h1 h2 => (q_7 j (by omega))
  have a_7 : S_7.2.1 = w + 1 := a_7.trans (by omega)
  have b_7 : S_7.2.2 = w + 1 := b_7.trans (by omega)
  refine mz_putF (ci := 5) (j := 0) d_Tw_init_9 rfl w_Tw_9 (by decide) ⟨rfl, rfl, wl_Tw_9⟩ (by omega) he (Nat.le_of_ble_eq_true rfl) (⟨rfl, rfl⟩) rfl (fun S_9 a_9 e_9 f_9 => ?_)
  have r_0 := f_9.at r_0 (by simp; omega)
  have fr : ∀ j, j < w → j ≠ o → S_9.1 j = S.1 j := fun j h1 h2 => (f_9.2 j (by simp; omega)).trans (fr j h1 h2)
  have b_9 : S_9.2.2 = w + 1 := (congrArg Prod.snd f_9.1).trans b_7
  have a_9 : S_9.2.1 = w + 1 := a_9.trans a_7
  refine mj_aload_n d_Tw_init_12 rfl ?_
  refine mz_bipush d_Tw_init_13 (by decide) ?_
  refine mz_newA (t := 0) (N := 10) (w := w + 1) d_Tw_init_15 rfl rfl ac_I (by decide) (by decide) a_9 b_9 (by omega) (by decide) (by decide) (fun S_15 a_15 b_15 r_1 q_15 => ?_)
  have e_9 := (q_15 o (by omega)).trans e_9
  have r_0 := (q_15 (w) (by omega)).trans r_0
  have fr : ∀ j, j < w → j ≠ o → S_15.1 j = S.1 j := fun j h1 h2 => (q_15 j (by omega)).trans (fr j h1 h2)
  have a_15 : S_15.2.1 = w + 2 := a_15.trans (by omega)
  have b_15 : S_15.2.2 = w + 2 := b_15.trans (by omega)
  refine mz_putF (ci := 5) (j := 1) d_Tw_init_17 rfl w_Tw_15 (by decide) ⟨rfl, rfl, wl_Tw_15⟩ (by omega) e_9 (Nat.le_of_ble_eq_true rfl) (⟨rfl, rfl⟩) rfl (fun S_17 a_17 e_17 f_17 => ?_)
  have r_0 := f_17.at r_0 (by simp; omega)
  have r_1 := f_17.at r_1 (by simp; omega)
  have fr : ∀ j, j < w → j ≠ o → S_17.1 j = S.1 j := fun j h1 h2 => (f_17.2 j (by simp; omega)).trans (fr j h1 h2)
  have b_17 : S_17.2.2 = w + 2 := (congrArg Prod.snd f_17.1).trans b_15
  have a_17 : S_17.2.1 = w + 2 := a_17.trans a_15
  refine mj_aload_n d_Tw_init_20 rfl ?_
  refine mz_bipush d_Tw_init_21 (by decide) ?_
  refine mz_newA (t := 0) (N := 10) (w := w + 2) d_Tw_init_23 rfl rfl ac_I (by decide) (by decide) a_17 b_17 (by omega) (by decide) (by decide) (fun S_23 a_23 b_23 r_2 q_23 => ?_)
  have e_17 := (q_23 o (by omega)).trans e_17
  have r_0 := (q_23 (w) (by omega)).trans r_0
  have r_1 := (q_23 (w + 1) (by omega)).trans r_1
  have fr : ∀ j, j < w → j ≠ o → S_23.1 j = S.1 j := fun j h1 h2 => (q_23 j (by omega)).trans (fr j h1 h2)
  have a_23 : S_23.2.1 = w + 3 := a_23.trans (by omega)
  have b_23 : S_23.2.2 = w + 3 := b_23.trans (by omega)
  refine mz_putF (ci := 5) (j := 2) d_Tw_init_25 rfl w_Tw_18 (by decide) ⟨rfl, rfl, wl_Tw_18⟩ (by omega) e_17 (Nat.le_of_ble_eq_true rfl) (⟨rfl, rfl⟩) rfl (fun S_25 a_25 e_25 f_25 => ?_)
  have r_0 := f_25.at r_0 (by simp; omega)
  have r_1 := f_25.at r_1 (by simp; omega)
  have r_2 := f_25.at r_2 (by simp; omega)
  have fr : ∀ j, j < w → j ≠ o → S_25.1 j = S.1 j := fun j h1 h2 => (f_25.2 j (by simp; omega)).trans (fr j h1 h2)
  have b_25 : S_25.2.2 = w + 3 := (congrArg Prod.snd f_25.1).trans b_23
  have a_25 : S_25.2.1 = w + 3 := a_25.trans a_23
  refine mz_vret d_Tw_init_28 rfl ?_
  exact ⟨⟨a_25, b_25, fr⟩, e_25, r_0, r_1, r_2⟩
theorem m_Tr_init {S : mj_S} (hS1 : S.2.1 = 6) (hS2 : S.2.2 = 6) (he : S.1 5 = .inr (3, [.null, .null, .null, .null, .int (iZ 0), .int (iZ 0), .int (iZ 0), .int (iZ 0)])) (hd : 2 ≤ d) : mj_Met Γ d y_Tr_init M_Tr_init [.ref 5] S 7 78 (mj_V fun S' => mj_cg S S' 5 6 7 ∧ S'.1 5 = .inr (3, [.ref 6, .ref 10, .ref 11, .ref 12, .int (iZ 0), .int (iZ 0), .int (iZ 0), .int (iZ 0)]) ∧ S'.1 6 = .inr (4, [.ref 7, .ref 8, .ref 9, .int (iZ 0)]) ∧ S'.1 7 = .inl (0, 6, .inl (mj_z fun _ => 0)) ∧ S'.1 8 = .inl (0, 6, .inl (mj_z fun _ => 0)) ∧ S'.1 9 = .inl (0, 36, .inl (mj_z fun _ => 0)) ∧ S'.1 10 = .inl (0, 10, .inl (mj_z fun _ => 0)) ∧ S'.1 11 = .inl (0, 10, .inl (mj_z fun _ => 0)) ∧ S'.1 12 = .inl (0, 6, .inl (mj_z fun _ => 0))) := by
  refine mj_Met.of (by decide) ⟨rfl, rfl⟩ rfl rfl rfl ?_
  refine mj_aload_n d_Tr_init_0 rfl ?_
  refine mj_objInit d_Tr_init_1 mj_obj_Tr (by omega) rfl ?_
  refine mj_aload_n d_Tr_init_4 rfl ?_
  refine mz_newo (ci := 4) (w := 6) (fs := [.null, .null, .null, .int (iZ 0)]) d_Tr_init_5 rfl nw_Tr_9 ia_Ml ini_Ml (by decide +kernel) rfl hS1 hS2 (by decide) (by decide) (by decide) (fun S_5 a_5 b_5 r_6 q_5 => ?_)
  have he := (q_5 5 (by decide)).trans he
  have fr : ∀ j, j < 6 → j ≠ 5 → S_5.1 j = S.1 j := fun j h1 h2 => (q_5 j (Nat.ne_of_lt (Nat.lt_of_lt_of_le h1 (by decide))))
  have a_5 : S_5.2.1 = 7 := a_5
  have b_5 : S_5.2.2 = 7 := b_5
  refine mj_dup d_Tr_init_8 rfl ?_
  refine mz_ctorN d_Tr_init_9 (m_Ml_init (d := 1) (o := 6) (w := 7) a_5 b_5 (by decide) (by decide) r_6 (by omega)) cw_Ml_init lk_Tr_11 rfl (by omega) rfl (by decide) (by decide) (fun S_9 h_9 => ?_)
  obtain ⟨⟨a_9, b_9, q_9⟩, r_6, r_7, r_8, r_9⟩ := h_9
  have he := (q_9 5 (by decide) (by decide)).trans he
  have fr : ∀ j, j < 6 → j ≠ 5 → S_9.1 j = S.1 j := fun j h1 h2 => (q_9 j (Nat.lt_of_lt_of_le h1 (by decide)) (Nat.ne_of_lt (Nat.lt_of_lt_of_le h1 (by decide)))).trans (fr j h1 h2)
  have a_9 : S_9.2.1 = 10 := a_9
  have b_9 : S_9.2.2 = 10 := b_9
  refine mz_putF (ci := 3) (j := 0) d_Tr_init_12 rfl w_Tr_12 (by decide) ⟨rfl, rfl, wl_Tr_12⟩ (by rw [a_9]; decide) he (Nat.le_of_ble_eq_true rfl) (⟨rfl, rfl⟩) rfl (fun S_12 a_12 e_12 f_12 => ?_)
  have r_6 := f_12.at r_6 (by decide)
  have r_7 := f_12.at r_7 (by decide)
  have r_8 := f_12.at r_8 (by decide)
  have r_9 := f_12.at r_9 (by decide)
  have fr : ∀ j, j < 6 → j ≠ 5 → S_12.1 j = S.1 j := fun j h1 h2 => (f_12.2 j (fun hj => h2 (List.mem_singleton.mp hj))).trans (fr j h1 h2)
  have b_12 : S_12.2.2 = 10 := (congrArg Prod.snd f_12.1).trans b_9
  have a_12 : S_12.2.1 = 10 := a_12.trans a_9
  refine mj_aload_n d_Tr_init_15 rfl ?_
  refine mz_bipush d_Tr_init_16 (by decide) ?_
  refine mz_newA (t := 0) (N := 10) (w := 10) d_Tr_init_18 rfl rfl ac_I (by decide) (by decide) a_12 b_12 (by decide) (by decide) (by decide) (fun S_18 a_18 b_18 r_10 q_18 => ?_)
  have e_12 := (q_18 5 (by decide)).trans e_12
  have r_6 := (q_18 6 (by decide)).trans r_6
  have r_7 := (q_18 7 (by decide)).trans r_7
  have r_8 := (q_18 8 (by decide)).trans r_8
  have r_9 := (q_18 9 (by decide)).trans r_9
  have fr : ∀ j, j < 6 → j ≠ 5 → S_18.1 j = S.1 j := fun j h1 h2 => (q_18 j (Nat.ne_of_lt (Nat.lt_of_lt_of_le h1 (by decide)))).trans (fr j h1 h2)
  have a_18 : S_18.2.1 = 11 := a_18
  have b_18 : S_18.2.2 = 11 := b_18
  refine mz_putF (ci := 3) (j := 1) d_Tr_init_20 rfl w_Tr_18 (by decide) ⟨rfl, rfl, wl_Tr_18⟩ (by rw [a_18]; decide) e_12 (Nat.le_of_ble_eq_true rfl) (⟨rfl, rfl⟩) rfl (fun S_20 a_20 e_20 f_20 => ?_)
  have r_6 := f_20.at r_6 (by decide)
  have r_7 := f_20.at r_7 (by decide)
  have r_8 := f_20.at r_8 (by decide)
  have r_9 := f_20.at r_9 (by decide)
  have r_10 := f_20.at r_10 (by decide)
  have fr : ∀ j, j < 6 → j ≠ 5 → S_20.1 j = S.1 j := fun j h1 h2 => (f_20.2 j (fun hj => h2 (List.mem_singleton.mp hj))).trans (fr j h1 h2)
  have b_20 : S_20.2.2 = 11 := (congrArg Prod.snd f_20.1).trans b_18
  have a_20 : S_20.2.1 = 11 := a_20.trans a_18
  refine mj_aload_n d_Tr_init_23 rfl ?_
  refine mz_bipush d_Tr_init_24 (by decide) ?_
  refine mz_newA (t := 0) (N := 10) (w := 11) d_Tr_init_26 rfl rfl ac_I (by decide) (by decide) a_20 b_20 (by decide) (by decide) (by decide) (fun S_26 a_26 b_26 r_11 q_26 => ?_)
  have e_20 := (q_26 5 (by decide)).trans e_20
  have r_6 := (q_26 6 (by decide)).trans r_6
  have r_7 := (q_26 7 (by decide)).trans r_7
  have r_8 := (q_26 8 (by decide)).trans r_8
  have r_9 := (q_26 9 (by decide)).trans r_9
  have r_10 := (q_26 10 (by decide)).trans r_10
  have fr : ∀ j, j < 6 → j ≠ 5 → S_26.1 j = S.1 j := fun j h1 h2 => (q_26 j (Nat.ne_of_lt (Nat.lt_of_lt_of_le h1 (by decide)))).trans (fr j h1 h2)
  have a_26 : S_26.2.1 = 12 := a_26
  have b_26 : S_26.2.2 = 12 := b_26
  refine mz_putF (ci := 3) (j := 2) d_Tr_init_28 rfl w_Tr_22 (by decide) ⟨rfl, rfl, wl_Tr_22⟩ (by rw [a_26]; decide) e_20 (Nat.le_of_ble_eq_true rfl) (⟨rfl, rfl⟩) rfl (fun S_28 a_28 e_28 f_28 => ?_)
  have r_6 := f_28.at r_6 (by decide)
  have r_7 := f_28.at r_7 (by decide)
  have r_8 := f_28.at r_8 (by decide)
  have r_9 := f_28.at r_9 (by decide)
  have r_10 := f_28.at r_10 (by decide)
  have r_11 := f_28.at r_11 (by decide)
  have fr : ∀ j, j < 6 → j ≠ 5 → S_28.1 j = S.1 j := fun j h1 h2 => (f_28.2 j (fun hj => h2 (List.mem_singleton.mp hj))).trans (fr j h1 h2)
  have b_28 : S_28.2.2 = 12 := (congrArg Prod.snd f_28.1).trans b_26
  have a_28 : S_28.2.1 = 12 := a_28.trans a_26
  refine mj_aload_n d_Tr_init_31 rfl ?_
  refine mz_bipush d_Tr_init_32 (by decide) ?_
  refine mz_newA (t := 0) (N := 6) (w := 12) d_Tr_init_34 rfl rfl ac_I (by decide) (by decide) a_28 b_28 (by decide) (by decide) (by decide) (fun S_34 a_34 b_34 r_12 q_34 => ?_)
  have e_28 := (q_34 5 (by decide)).trans e_28
  have r_6 := (q_34 6 (by decide)).trans r_6
  have r_7 := (q_34 7 (by decide)).trans r_7
  have r_8 := (q_34 8 (by decide)).trans r_8
  have r_9 := (q_34 9 (by decide)).trans r_9
  have r_10 := (q_34 10 (by decide)).trans r_10
  have r_11 := (q_34 11 (by decide)).trans r_11
  have fr : ∀ j, j < 6 → j ≠ 5 → S_34.1 j = S.1 j := fun j h1 h2 => (q_34 j (Nat.ne_of_lt (Nat.lt_of_lt_of_le h1 (by decide)))).trans (fr j h1 h2)
  have a_34 : S_34.2.1 = 13 := a_34
  have b_34 : S_34.2.2 = 13 := b_34
  refine mz_putF (ci := 3) (j := 3) d_Tr_init_36 rfl w_Tr_25 (by decide) ⟨rfl, rfl, wl_Tr_25⟩ (by rw [a_34]; decide) e_28 (Nat.le_of_ble_eq_true rfl) (⟨rfl, rfl⟩) rfl (fun S_36 a_36 e_36 f_36 => ?_)
  have r_6 := f_36.at r_6 (by decide)
  have r_7 := f_36.at r_7 (by decide)
  have r_8 := f_36.at r_8 (by decide)
  have r_9 := f_36.at r_9 (by decide)
  have r_10 := f_36.at r_10 (by decide)
  have r_11 := f_36.at r_11 (by decide)
  have r_12 := f_36.at r_12 (by decide)
  have fr : ∀ j, j < 6 → j ≠ 5 → S_36.1 j = S.1 j := fun j h1 h2 => (f_36.2 j (fun hj => h2 (List.mem_singleton.mp hj))).trans (fr j h1 h2)
  have b_36 : S_36.2.2 = 13 := (congrArg Prod.snd f_36.1).trans b_34
  have a_36 : S_36.2.1 = 13 := a_36.trans a_34
  refine mz_vret d_Tr_init_39 rfl ?_
  exact ⟨⟨a_36, b_36, fr⟩, e_36, r_6, r_7, r_8, r_9, r_10, r_11, r_12⟩
theorem m_Ls_init {S : mj_S} (hS1 : S.2.1 = 21) (hS2 : S.2.2 = 21) (he : S.1 20 = .inr (7, [.null, .null, .null, .null, .null])) (hd : 2 ≤ d) : mj_Met Γ d y_Ls_init M_Ls_init [.ref 20] S 12 593 (mj_V fun S' => mj_cg S S' 20 21 12 ∧ S'.1 20 = .inr (7, [.ref 21, .ref 24, .ref 27, .ref 31, .ref 32]) ∧ S'.1 21 = .inr (8, [.ref 22, .ref 23, .int (iZ 0), .int (iZ 0), .int (iZ 0)]) ∧ S'.1 22 = .inl (0, 6, .inl (mj_z fun _ => 0)) ∧ S'.1 23 = .inl (0, 500, .inl (mj_z fun _ => 0)) ∧ S'.1 24 = .inr (6, [.ref 25, .ref 26, .int (iZ 0), .int (iZ 0), .int (iZ 0)]) ∧ S'.1 25 = .inl (0, 6, .inl (mj_z fun _ => 0)) ∧ S'.1 26 = .inl (2, 6, .inl (mj_z fun _ => 0)) ∧ S'.1 27 = .inr (4, [.ref 28, .ref 29, .ref 30, .int (iZ 0)]) ∧ S'.1 28 = .inl (0, 6, .inl (mj_z fun _ => 0)) ∧ S'.1 29 = .inl (0, 6, .inl (mj_z fun _ => 0)) ∧ S'.1 30 = .inl (0, 36, .inl (mj_z fun _ => 0)) ∧ S'.1 31 = .inl (0, 7, .inl (mj_z fun _ => 0)) ∧ S'.1 32 = .inl (0, 6, .inl (mj_z fun _ => 0))) := by
  refine mj_Met.of (by decide) ⟨rfl, rfl⟩ rfl rfl rfl ?_
  refine mj_aload_n d_Ls_init_0 rfl ?_
  refine mj_objInit d_Ls_init_1 mj_obj_Ls (by omega) rfl ?_
  refine mj_aload_n d_Ls_init_4 rfl ?_
  refine mz_newo (ci := 8) (w := 21) (fs := [.null, .null, .int (iZ 0), .int (iZ 0), .int (iZ 0)]) d_Ls_init_5 rfl nw_Ls_9 ia_Ca ini_Ca (by decide +kernel) rfl hS1 hS2 (by decide) (by decide) (by decide) (fun S_5 a_5 b_5 r_21 q_5 => ?_)
  have he := (q_5 20 (by decide)).trans he
  have fr : ∀ j, j < 21 → j ≠ 20 → S_5.1 j = S.1 j := fun j h1 h2 => (q_5 j (Nat.ne_of_lt (Nat.lt_of_lt_of_le h1 (by decide))))
  have a_5 : S_5.2.1 = 22 := a_5
  have b_5 : S_5.2.2 = 22 := b_5
  refine mj_dup d_Ls_init_8 rfl ?_
  refine mz_ctorN d_Ls_init_9 (m_Ca_init (d := 1) (o := 21) (w := 22) a_5 b_5 (by decide) (by decide) r_21 (by omega)) cw_Ca_init lk_Ls_11 rfl (by omega) rfl (by decide) (by decide) (fun S_9 h_9 => ?_)
  obtain ⟨⟨a_9, b_9, q_9⟩, r_21, r_22, r_23⟩ := h_9
  have he := (q_9 20 (by decide) (by decide)).trans he
  have fr : ∀ j, j < 21 → j ≠ 20 → S_9.1 j = S.1 j := fun j h1 h2 => (q_9 j (Nat.lt_of_lt_of_le h1 (by decide)) (Nat.ne_of_lt (Nat.lt_of_lt_of_le h1 (by decide)))).trans (fr j h1 h2)
  have a_9 : S_9.2.1 = 24 := a_9
  have b_9 : S_9.2.2 = 24 := b_9
  refine mz_putF (ci := 7) (j := 0) d_Ls_init_12 rfl w_Ls_12 (by decide) ⟨rfl, rfl, wl_Ls_12⟩ (by rw [a_9]; decide) he (Nat.le_of_ble_eq_true rfl) (⟨rfl, rfl⟩) rfl (fun S_12 a_12 e_12 f_12 => ?_)
  have r_21 := f_12.at r_21 (by decide)
  have r_22 := f_12.at r_22 (by decide)
  have r_23 := f_12.at r_23 (by decide)
  have fr : ∀ j, j < 21 → j ≠ 20 → S_12.1 j = S.1 j := fun j h1 h2 => (f_12.2 j (fun hj => h2 (List.mem_singleton.mp hj))).trans (fr j h1 h2)
  have b_12 : S_12.2.2 = 24 := (congrArg Prod.snd f_12.1).trans b_9
  have a_12 : S_12.2.1 = 24 := a_12.trans a_9
  refine mj_aload_n d_Ls_init_15 rfl ?_
  refine mz_newo (ci := 6) (w := 24) (fs := [.null, .null, .int (iZ 0), .int (iZ 0), .int (iZ 0)]) d_Ls_init_16 rfl nw_Ls_18 ia_Nu ini_Nu (by decide +kernel) rfl a_12 b_12 (by decide) (by decide) (by decide) (fun S_16 a_16 b_16 r_24 q_16 => ?_)
  have e_12 := (q_16 20 (by decide)).trans e_12
  have r_21 := (q_16 21 (by decide)).trans r_21
  have r_22 := (q_16 22 (by decide)).trans r_22
  have r_23 := (q_16 23 (by decide)).trans r_23
  have fr : ∀ j, j < 21 → j ≠ 20 → S_16.1 j = S.1 j := fun j h1 h2 => (q_16 j (Nat.ne_of_lt (Nat.lt_of_lt_of_le h1 (by decide)))).trans (fr j h1 h2)
  have a_16 : S_16.2.1 = 25 := a_16
  have b_16 : S_16.2.2 = 25 := b_16
  refine mj_dup d_Ls_init_19 rfl ?_
  refine mz_ctorN d_Ls_init_20 (m_Nu_init (d := 1) (o := 24) (w := 25) a_16 b_16 (by decide) (by decide) r_24 (by omega)) cw_Nu_init lk_Ls_20 rfl (by omega) rfl (by decide) (by decide) (fun S_20 h_20 => ?_)
  obtain ⟨⟨a_20, b_20, q_20⟩, r_24, r_25, r_26⟩ := h_20
  have e_12 := (q_20 20 (by decide) (by decide)).trans e_12
  have r_21 := (q_20 21 (by decide) (by decide)).trans r_21
  have r_22 := (q_20 22 (by decide) (by decide)).trans r_22
  have r_23 := (q_20 23 (by decide) (by decide)).trans r_23
  have fr : ∀ j, j < 21 → j ≠ 20 → S_20.1 j = S.1 j := fun j h1 h2 => (q_20 j (Nat.lt_of_lt_of_le h1 (by decide)) (Nat.ne_of_lt (Nat.lt_of_lt_of_le h1 (by decide)))).trans (fr j h1 h2)
  have a_20 : S_20.2.1 = 27 := a_20
  have b_20 : S_20.2.2 = 27 := b_20
  refine mz_putF (ci := 7) (j := 1) d_Ls_init_23 rfl w_Ls_21 (by decide) ⟨rfl, rfl, wl_Ls_21⟩ (by rw [a_20]; decide) e_12 (Nat.le_of_ble_eq_true rfl) (⟨rfl, rfl⟩) rfl (fun S_23 a_23 e_23 f_23 => ?_)
  have r_21 := f_23.at r_21 (by decide)
  have r_22 := f_23.at r_22 (by decide)
  have r_23 := f_23.at r_23 (by decide)
  have r_24 := f_23.at r_24 (by decide)
  have r_25 := f_23.at r_25 (by decide)
  have r_26 := f_23.at r_26 (by decide)
  have fr : ∀ j, j < 21 → j ≠ 20 → S_23.1 j = S.1 j := fun j h1 h2 => (f_23.2 j (fun hj => h2 (List.mem_singleton.mp hj))).trans (fr j h1 h2)
  have b_23 : S_23.2.2 = 27 := (congrArg Prod.snd f_23.1).trans b_20
  have a_23 : S_23.2.1 = 27 := a_23.trans a_20
  refine mj_aload_n d_Ls_init_26 rfl ?_
  refine mz_newo (ci := 4) (w := 27) (fs := [.null, .null, .null, .int (iZ 0)]) d_Ls_init_27 rfl nw_Ls_25 ia_Ml ini_Ml (by decide +kernel) rfl a_23 b_23 (by decide) (by decide) (by decide) (fun S_27 a_27 b_27 r_27 q_27 => ?_)
  have e_23 := (q_27 20 (by decide)).trans e_23
  have r_21 := (q_27 21 (by decide)).trans r_21
  have r_22 := (q_27 22 (by decide)).trans r_22
  have r_23 := (q_27 23 (by decide)).trans r_23
  have r_24 := (q_27 24 (by decide)).trans r_24
  have r_25 := (q_27 25 (by decide)).trans r_25
  have r_26 := (q_27 26 (by decide)).trans r_26
  have fr : ∀ j, j < 21 → j ≠ 20 → S_27.1 j = S.1 j := fun j h1 h2 => (q_27 j (Nat.ne_of_lt (Nat.lt_of_lt_of_le h1 (by decide)))).trans (fr j h1 h2)
  have a_27 : S_27.2.1 = 28 := a_27
  have b_27 : S_27.2.2 = 28 := b_27
  refine mj_dup d_Ls_init_30 rfl ?_
  refine mz_ctorN d_Ls_init_31 (m_Ml_init (d := 1) (o := 27) (w := 28) a_27 b_27 (by decide) (by decide) r_27 (by omega)) cw_Ml_init lk_Ls_27 rfl (by omega) rfl (by decide) (by decide) (fun S_31 h_31 => ?_)
  obtain ⟨⟨a_31, b_31, q_31⟩, r_27, r_28, r_29, r_30⟩ := h_31
  have e_23 := (q_31 20 (by decide) (by decide)).trans e_23
  have r_21 := (q_31 21 (by decide) (by decide)).trans r_21
  have r_22 := (q_31 22 (by decide) (by decide)).trans r_22
  have r_23 := (q_31 23 (by decide) (by decide)).trans r_23
  have r_24 := (q_31 24 (by decide) (by decide)).trans r_24
  have r_25 := (q_31 25 (by decide) (by decide)).trans r_25
  have r_26 := (q_31 26 (by decide) (by decide)).trans r_26
  have fr : ∀ j, j < 21 → j ≠ 20 → S_31.1 j = S.1 j := fun j h1 h2 => (q_31 j (Nat.lt_of_lt_of_le h1 (by decide)) (Nat.ne_of_lt (Nat.lt_of_lt_of_le h1 (by decide)))).trans (fr j h1 h2)
  have a_31 : S_31.2.1 = 31 := a_31
  have b_31 : S_31.2.2 = 31 := b_31
  refine mz_putF (ci := 7) (j := 2) d_Ls_init_34 rfl w_Ls_28 (by decide) ⟨rfl, rfl, wl_Ls_28⟩ (by rw [a_31]; decide) e_23 (Nat.le_of_ble_eq_true rfl) (⟨rfl, rfl⟩) rfl (fun S_34 a_34 e_34 f_34 => ?_)
  have r_21 := f_34.at r_21 (by decide)
  have r_22 := f_34.at r_22 (by decide)
  have r_23 := f_34.at r_23 (by decide)
  have r_24 := f_34.at r_24 (by decide)
  have r_25 := f_34.at r_25 (by decide)
  have r_26 := f_34.at r_26 (by decide)
  have r_27 := f_34.at r_27 (by decide)
  have r_28 := f_34.at r_28 (by decide)
  have r_29 := f_34.at r_29 (by decide)
  have r_30 := f_34.at r_30 (by decide)
  have fr : ∀ j, j < 21 → j ≠ 20 → S_34.1 j = S.1 j := fun j h1 h2 => (f_34.2 j (fun hj => h2 (List.mem_singleton.mp hj))).trans (fr j h1 h2)
  have b_34 : S_34.2.2 = 31 := (congrArg Prod.snd f_34.1).trans b_31
  have a_34 : S_34.2.1 = 31 := a_34.trans a_31
  refine mj_aload_n d_Ls_init_37 rfl ?_
  refine mz_bipush d_Ls_init_38 (by decide) ?_
  refine mz_newA (t := 0) (N := 7) (w := 31) d_Ls_init_40 rfl rfl ac_I (by decide) (by decide) a_34 b_34 (by decide) (by decide) (by decide) (fun S_40 a_40 b_40 r_31 q_40 => ?_)
  have e_34 := (q_40 20 (by decide)).trans e_34
  have r_21 := (q_40 21 (by decide)).trans r_21
  have r_22 := (q_40 22 (by decide)).trans r_22
  have r_23 := (q_40 23 (by decide)).trans r_23
  have r_24 := (q_40 24 (by decide)).trans r_24
  have r_25 := (q_40 25 (by decide)).trans r_25
  have r_26 := (q_40 26 (by decide)).trans r_26
  have r_27 := (q_40 27 (by decide)).trans r_27
  have r_28 := (q_40 28 (by decide)).trans r_28
  have r_29 := (q_40 29 (by decide)).trans r_29
  have r_30 := (q_40 30 (by decide)).trans r_30
  have fr : ∀ j, j < 21 → j ≠ 20 → S_40.1 j = S.1 j := fun j h1 h2 => (q_40 j (Nat.ne_of_lt (Nat.lt_of_lt_of_le h1 (by decide)))).trans (fr j h1 h2)
  have a_40 : S_40.2.1 = 32 := a_40
  have b_40 : S_40.2.2 = 32 := b_40
  refine mz_putF (ci := 7) (j := 3) d_Ls_init_42 rfl w_Ls_32 (by decide) ⟨rfl, rfl, wl_Ls_32⟩ (by rw [a_40]; decide) e_34 (Nat.le_of_ble_eq_true rfl) (⟨rfl, rfl⟩) rfl (fun S_42 a_42 e_42 f_42 => ?_)
  have r_21 := f_42.at r_21 (by decide)
  have r_22 := f_42.at r_22 (by decide)
  have r_23 := f_42.at r_23 (by decide)
  have r_24 := f_42.at r_24 (by decide)
  have r_25 := f_42.at r_25 (by decide)
  have r_26 := f_42.at r_26 (by decide)
  have r_27 := f_42.at r_27 (by decide)
  have r_28 := f_42.at r_28 (by decide)
  have r_29 := f_42.at r_29 (by decide)
  have r_30 := f_42.at r_30 (by decide)
  have r_31 := f_42.at r_31 (by decide)
  have fr : ∀ j, j < 21 → j ≠ 20 → S_42.1 j = S.1 j := fun j h1 h2 => (f_42.2 j (fun hj => h2 (List.mem_singleton.mp hj))).trans (fr j h1 h2)
  have b_42 : S_42.2.2 = 32 := (congrArg Prod.snd f_42.1).trans b_40
  have a_42 : S_42.2.1 = 32 := a_42.trans a_40
  refine mj_aload_n d_Ls_init_45 rfl ?_
  refine mz_bipush d_Ls_init_46 (by decide) ?_
  refine mz_newA (t := 0) (N := 6) (w := 32) d_Ls_init_48 rfl rfl ac_I (by decide) (by decide) a_42 b_42 (by decide) (by decide) (by decide) (fun S_48 a_48 b_48 r_32 q_48 => ?_)
  have e_42 := (q_48 20 (by decide)).trans e_42
  have r_21 := (q_48 21 (by decide)).trans r_21
  have r_22 := (q_48 22 (by decide)).trans r_22
  have r_23 := (q_48 23 (by decide)).trans r_23
  have r_24 := (q_48 24 (by decide)).trans r_24
  have r_25 := (q_48 25 (by decide)).trans r_25
  have r_26 := (q_48 26 (by decide)).trans r_26
  have r_27 := (q_48 27 (by decide)).trans r_27
  have r_28 := (q_48 28 (by decide)).trans r_28
  have r_29 := (q_48 29 (by decide)).trans r_29
  have r_30 := (q_48 30 (by decide)).trans r_30
  have r_31 := (q_48 31 (by decide)).trans r_31
  have fr : ∀ j, j < 21 → j ≠ 20 → S_48.1 j = S.1 j := fun j h1 h2 => (q_48 j (Nat.ne_of_lt (Nat.lt_of_lt_of_le h1 (by decide)))).trans (fr j h1 h2)
  have a_48 : S_48.2.1 = 33 := a_48
  have b_48 : S_48.2.2 = 33 := b_48
  refine mz_putF (ci := 7) (j := 4) d_Ls_init_50 rfl w_Ls_36 (by decide) ⟨rfl, rfl, wl_Ls_36⟩ (by rw [a_48]; decide) e_42 (Nat.le_of_ble_eq_true rfl) (⟨rfl, rfl⟩) rfl (fun S_50 a_50 e_50 f_50 => ?_)
  have r_21 := f_50.at r_21 (by decide)
  have r_22 := f_50.at r_22 (by decide)
  have r_23 := f_50.at r_23 (by decide)
  have r_24 := f_50.at r_24 (by decide)
  have r_25 := f_50.at r_25 (by decide)
  have r_26 := f_50.at r_26 (by decide)
  have r_27 := f_50.at r_27 (by decide)
  have r_28 := f_50.at r_28 (by decide)
  have r_29 := f_50.at r_29 (by decide)
  have r_30 := f_50.at r_30 (by decide)
  have r_31 := f_50.at r_31 (by decide)
  have r_32 := f_50.at r_32 (by decide)
  have fr : ∀ j, j < 21 → j ≠ 20 → S_50.1 j = S.1 j := fun j h1 h2 => (f_50.2 j (fun hj => h2 (List.mem_singleton.mp hj))).trans (fr j h1 h2)
  have b_50 : S_50.2.2 = 33 := (congrArg Prod.snd f_50.1).trans b_48
  have a_50 : S_50.2.1 = 33 := a_50.trans a_48
  refine mz_vret d_Ls_init_53 rfl ?_
  exact ⟨⟨a_50, b_50, fr⟩, e_50, r_21, r_22, r_23, r_24, r_25, r_26, r_27, r_28, r_29, r_30, r_31, r_32⟩
theorem m_IL_init {S : mj_S} (hS1 : S.2.1 = 1) (hS2 : S.2.2 = 1) (he : S.1 0 = .inr (0, [.null, .null, .null, .null, .null, .null, .null, .null, .int (iZ 0)])) (hd : 3 ≤ d) : mj_Met Γ d y_IL_init M_IL_init [.ref 0] S 39 1368 (mj_V fun S' => mj_cg S S' 0 1 39 ∧ S'.1 0 = .inr (0, [.ref 1, .ref 3, .ref 5, .ref 13, .ref 17, .ref 20, .ref 33, .ref 37, .int (iZ (-1))]) ∧ S'.1 1 = .inr (1, [.ref 2, .int (iZ 0)]) ∧ S'.1 2 = .inl (1, 60, .inl (mj_z fun _ => 0)) ∧ S'.1 3 = .inr (2, [.ref 4, .int (iZ 0)]) ∧ S'.1 4 = .inl (0, 10, .inl (mj_z fun _ => 0)) ∧ S'.1 5 = .inr (3, [.ref 6, .ref 10, .ref 11, .ref 12, .int (iZ 0), .int (iZ 0), .int (iZ 0), .int (iZ 0)]) ∧ S'.1 6 = .inr (4, [.ref 7, .ref 8, .ref 9, .int (iZ 0)]) ∧ S'.1 7 = .inl (0, 6, .inl (mj_z fun _ => 0)) ∧ S'.1 8 = .inl (0, 6, .inl (mj_z fun _ => 0)) ∧ S'.1 9 = .inl (0, 36, .inl (mj_z fun _ => 0)) ∧ S'.1 10 = .inl (0, 10, .inl (mj_z fun _ => 0)) ∧ S'.1 11 = .inl (0, 10, .inl (mj_z fun _ => 0)) ∧ S'.1 12 = .inl (0, 6, .inl (mj_z fun _ => 0)) ∧ S'.1 13 = .inr (5, [.ref 14, .ref 15, .ref 16, .int (iZ 0)]) ∧ S'.1 14 = .inl (0, 6, .inl (mj_z fun _ => 0)) ∧ S'.1 15 = .inl (0, 10, .inl (mj_z fun _ => 0)) ∧ S'.1 16 = .inl (0, 10, .inl (mj_z fun _ => 0)) ∧ S'.1 17 = .inr (6, [.ref 18, .ref 19, .int (iZ 0), .int (iZ 0), .int (iZ 0)]) ∧ S'.1 18 = .inl (0, 6, .inl (mj_z fun _ => 0)) ∧ S'.1 19 = .inl (2, 6, .inl (mj_z fun _ => 0)) ∧ S'.1 20 = .inr (7, [.ref 21, .ref 24, .ref 27, .ref 31, .ref 32]) ∧ S'.1 21 = .inr (8, [.ref 22, .ref 23, .int (iZ 0), .int (iZ 0), .int (iZ 0)]) ∧ S'.1 22 = .inl (0, 6, .inl (mj_z fun _ => 0)) ∧ S'.1 23 = .inl (0, 500, .inl (mj_z fun _ => 0)) ∧ S'.1 24 = .inr (6, [.ref 25, .ref 26, .int (iZ 0), .int (iZ 0), .int (iZ 0)]) ∧ S'.1 25 = .inl (0, 6, .inl (mj_z fun _ => 0)) ∧ S'.1 26 = .inl (2, 6, .inl (mj_z fun _ => 0)) ∧ S'.1 27 = .inr (4, [.ref 28, .ref 29, .ref 30, .int (iZ 0)]) ∧ S'.1 28 = .inl (0, 6, .inl (mj_z fun _ => 0)) ∧ S'.1 29 = .inl (0, 6, .inl (mj_z fun _ => 0)) ∧ S'.1 30 = .inl (0, 36, .inl (mj_z fun _ => 0)) ∧ S'.1 31 = .inl (0, 7, .inl (mj_z fun _ => 0)) ∧ S'.1 32 = .inl (0, 6, .inl (mj_z fun _ => 0)) ∧ S'.1 33 = .inr (4, [.ref 34, .ref 35, .ref 36, .int (iZ 0)]) ∧ S'.1 34 = .inl (0, 6, .inl (mj_z fun _ => 0)) ∧ S'.1 35 = .inl (0, 6, .inl (mj_z fun _ => 0)) ∧ S'.1 36 = .inl (0, 36, .inl (mj_z fun _ => 0)) ∧ S'.1 37 = .inr (8, [.ref 38, .ref 39, .int (iZ 0), .int (iZ 0), .int (iZ 0)]) ∧ S'.1 38 = .inl (0, 6, .inl (mj_z fun _ => 0)) ∧ S'.1 39 = .inl (0, 500, .inl (mj_z fun _ => 0))) := by
  refine mj_Met.of (by decide) ⟨rfl, rfl⟩ rfl rfl rfl ?_
  refine mj_aload_n d_IL_init_0 rfl ?_
  refine mj_objInit d_IL_init_1 mj_obj_IL (by omega) rfl ?_
  refine mj_aload_n d_IL_init_4 rfl ?_
  refine mz_newo (ci := 1) (w := 1) (fs := [.null, .int (iZ 0)]) d_IL_init_5 rfl nw_IL_7 ia_Ln ini_Ln (by decide +kernel) rfl hS1 hS2 (by decide) (by decide) (by decide) (fun S_5 a_5 b_5 r_1 q_5 => ?_)
  have he := (q_5 0 (by decide)).trans he
  have fr : ∀ j, j < 1 → j ≠ 0 → S_5.1 j = S.1 j := fun j h1 h2 => (q_5 j (Nat.ne_of_lt (Nat.lt_of_lt_of_le h1 (by decide))))
  have a_5 : S_5.2.1 = 2 := a_5
  have b_5 : S_5.2.2 = 2 := b_5
  refine mj_dup d_IL_init_8 rfl ?_
  refine mz_ctorN d_IL_init_9 (m_Ln_init (d := 1) (o := 1) (w := 2) a_5 b_5 (by decide) (by decide) r_1 (by omega)) cw_Ln_init lk_IL_9 rfl (by omega) rfl (by decide) (by decide) (fun S_9 h_9 => ?_)
  obtain ⟨⟨a_9, b_9, q_9⟩, r_1, r_2⟩ := h_9
  have he := (q_9 0 (by decide) (by decide)).trans he
  have fr : ∀ j, j < 1 → j ≠ 0 → S_9.1 j = S.1 j := fun j h1 h2 => (q_9 j (Nat.lt_of_lt_of_le h1 (by decide)) (Nat.ne_of_lt (Nat.lt_of_lt_of_le h1 (by decide)))).trans (fr j h1 h2)
  have a_9 : S_9.2.1 = 3 := a_9
  have b_9 : S_9.2.2 = 3 := b_9
  refine mz_putF (ci := 0) (j := 0) d_IL_init_12 rfl w_IL_10 (by decide) ⟨rfl, rfl, wl_IL_10⟩ (by rw [a_9]; decide) he (Nat.le_of_ble_eq_true rfl) (⟨rfl, rfl⟩) rfl (fun S_12 a_12 e_12 f_12 => ?_)
  have r_1 := f_12.at r_1 (by decide)
  have r_2 := f_12.at r_2 (by decide)
  have fr : ∀ j, j < 1 → j ≠ 0 → S_12.1 j = S.1 j := fun j h1 h2 => (f_12.2 j (fun hj => h2 (List.mem_singleton.mp hj))).trans (fr j h1 h2)
  have b_12 : S_12.2.2 = 3 := (congrArg Prod.snd f_12.1).trans b_9
  have a_12 : S_12.2.1 = 3 := a_12.trans a_9
  refine mj_aload_n d_IL_init_15 rfl ?_
  refine mz_newo (ci := 2) (w := 3) (fs := [.null, .int (iZ 0)]) d_IL_init_16 rfl nw_IL_16 ia_Fr ini_Fr (by decide +kernel) rfl a_12 b_12 (by decide) (by decide) (by decide) (fun S_16 a_16 b_16 r_3 q_16 => ?_)
  have e_12 := (q_16 0 (by decide)).trans e_12
  have r_1 := (q_16 1 (by decide)).trans r_1
  have r_2 := (q_16 2 (by decide)).trans r_2
  have fr : ∀ j, j < 1 → j ≠ 0 → S_16.1 j = S.1 j := fun j h1 h2 => (q_16 j (Nat.ne_of_lt (Nat.lt_of_lt_of_le h1 (by decide)))).trans (fr j h1 h2)
  have a_16 : S_16.2.1 = 4 := a_16
  have b_16 : S_16.2.2 = 4 := b_16
  refine mj_dup d_IL_init_19 rfl ?_
  refine mz_ctorN d_IL_init_20 (m_Fr_init (d := 1) (o := 3) (w := 4) a_16 b_16 (by decide) (by decide) r_3 (by omega)) cw_Fr_init lk_IL_18 rfl (by omega) rfl (by decide) (by decide) (fun S_20 h_20 => ?_)
  obtain ⟨⟨a_20, b_20, q_20⟩, r_3, r_4⟩ := h_20
  have e_12 := (q_20 0 (by decide) (by decide)).trans e_12
  have r_1 := (q_20 1 (by decide) (by decide)).trans r_1
  have r_2 := (q_20 2 (by decide) (by decide)).trans r_2
  have fr : ∀ j, j < 1 → j ≠ 0 → S_20.1 j = S.1 j := fun j h1 h2 => (q_20 j (Nat.lt_of_lt_of_le h1 (by decide)) (Nat.ne_of_lt (Nat.lt_of_lt_of_le h1 (by decide)))).trans (fr j h1 h2)
  have a_20 : S_20.2.1 = 5 := a_20
  have b_20 : S_20.2.2 = 5 := b_20
  refine mz_putF (ci := 0) (j := 1) d_IL_init_23 rfl w_IL_19 (by decide) ⟨rfl, rfl, wl_IL_19⟩ (by rw [a_20]; decide) e_12 (Nat.le_of_ble_eq_true rfl) (⟨rfl, rfl⟩) rfl (fun S_23 a_23 e_23 f_23 => ?_)
  have r_1 := f_23.at r_1 (by decide)
  have r_2 := f_23.at r_2 (by decide)
  have r_3 := f_23.at r_3 (by decide)
  have r_4 := f_23.at r_4 (by decide)
  have fr : ∀ j, j < 1 → j ≠ 0 → S_23.1 j = S.1 j := fun j h1 h2 => (f_23.2 j (fun hj => h2 (List.mem_singleton.mp hj))).trans (fr j h1 h2)
  have b_23 : S_23.2.2 = 5 := (congrArg Prod.snd f_23.1).trans b_20
  have a_23 : S_23.2.1 = 5 := a_23.trans a_20
  refine mj_aload_n d_IL_init_26 rfl ?_
  refine mz_newo (ci := 3) (w := 5) (fs := [.null, .null, .null, .null, .int (iZ 0), .int (iZ 0), .int (iZ 0), .int (iZ 0)]) d_IL_init_27 rfl nw_IL_23 ia_Tr ini_Tr (by decide +kernel) rfl a_23 b_23 (by decide) (by decide) (by decide) (fun S_27 a_27 b_27 r_5 q_27 => ?_)
  have e_23 := (q_27 0 (by decide)).trans e_23
  have r_1 := (q_27 1 (by decide)).trans r_1
  have r_2 := (q_27 2 (by decide)).trans r_2
  have r_3 := (q_27 3 (by decide)).trans r_3
  have r_4 := (q_27 4 (by decide)).trans r_4
  have fr : ∀ j, j < 1 → j ≠ 0 → S_27.1 j = S.1 j := fun j h1 h2 => (q_27 j (Nat.ne_of_lt (Nat.lt_of_lt_of_le h1 (by decide)))).trans (fr j h1 h2)
  have a_27 : S_27.2.1 = 6 := a_27
  have b_27 : S_27.2.2 = 6 := b_27
  refine mj_dup d_IL_init_30 rfl ?_
  refine mz_ctorN d_IL_init_31 (m_Tr_init (d := 2) a_27 b_27 r_5 (by omega)) cw_Tr_init lk_IL_25 rfl (by omega) rfl (by decide) (by decide) (fun S_31 h_31 => ?_)
  obtain ⟨⟨a_31, b_31, q_31⟩, r_5, r_6, r_7, r_8, r_9, r_10, r_11, r_12⟩ := h_31
  have e_23 := (q_31 0 (by decide) (by decide)).trans e_23
  have r_1 := (q_31 1 (by decide) (by decide)).trans r_1
  have r_2 := (q_31 2 (by decide) (by decide)).trans r_2
  have r_3 := (q_31 3 (by decide) (by decide)).trans r_3
  have r_4 := (q_31 4 (by decide) (by decide)).trans r_4
  have fr : ∀ j, j < 1 → j ≠ 0 → S_31.1 j = S.1 j := fun j h1 h2 => (q_31 j (Nat.lt_of_lt_of_le h1 (by decide)) (Nat.ne_of_lt (Nat.lt_of_lt_of_le h1 (by decide)))).trans (fr j h1 h2)
  have a_31 : S_31.2.1 = 13 := a_31
  have b_31 : S_31.2.2 = 13 := b_31
  refine mz_putF (ci := 0) (j := 2) d_IL_init_34 rfl w_IL_26 (by decide) ⟨rfl, rfl, wl_IL_26⟩ (by rw [a_31]; decide) e_23 (Nat.le_of_ble_eq_true rfl) (⟨rfl, rfl⟩) rfl (fun S_34 a_34 e_34 f_34 => ?_)
  have r_1 := f_34.at r_1 (by decide)
  have r_2 := f_34.at r_2 (by decide)
  have r_3 := f_34.at r_3 (by decide)
  have r_4 := f_34.at r_4 (by decide)
  have r_5 := f_34.at r_5 (by decide)
  have r_6 := f_34.at r_6 (by decide)
  have r_7 := f_34.at r_7 (by decide)
  have r_8 := f_34.at r_8 (by decide)
  have r_9 := f_34.at r_9 (by decide)
  have r_10 := f_34.at r_10 (by decide)
  have r_11 := f_34.at r_11 (by decide)
  have r_12 := f_34.at r_12 (by decide)
  have fr : ∀ j, j < 1 → j ≠ 0 → S_34.1 j = S.1 j := fun j h1 h2 => (f_34.2 j (fun hj => h2 (List.mem_singleton.mp hj))).trans (fr j h1 h2)
  have b_34 : S_34.2.2 = 13 := (congrArg Prod.snd f_34.1).trans b_31
  have a_34 : S_34.2.1 = 13 := a_34.trans a_31
  refine mj_aload_n d_IL_init_37 rfl ?_
  refine mz_newo (ci := 5) (w := 13) (fs := [.null, .null, .null, .int (iZ 0)]) d_IL_init_38 rfl nw_IL_30 ia_Tw ini_Tw (by decide +kernel) rfl a_34 b_34 (by decide) (by decide) (by decide) (fun S_38 a_38 b_38 r_13 q_38 => ?_)
  have e_34 := (q_38 0 (by decide)).trans e_34
  have r_1 := (q_38 1 (by decide)).trans r_1
  have r_2 := (q_38 2 (by decide)).trans r_2
  have r_3 := (q_38 3 (by decide)).trans r_3
  have r_4 := (q_38 4 (by decide)).trans r_4
  have r_5 := (q_38 5 (by decide)).trans r_5
  have r_6 := (q_38 6 (by decide)).trans r_6
  have r_7 := (q_38 7 (by decide)).trans r_7
  have r_8 := (q_38 8 (by decide)).trans r_8
  have r_9 := (q_38 9 (by decide)).trans r_9
  have r_10 := (q_38 10 (by decide)).trans r_10
  have r_11 := (q_38 11 (by decide)).trans r_11
  have r_12 := (q_38 12 (by decide)).trans r_12
  have fr : ∀ j, j < 1 → j ≠ 0 → S_38.1 j = S.1 j := fun j h1 h2 => (q_38 j (Nat.ne_of_lt (Nat.lt_of_lt_of_le h1 (by decide)))).trans (fr j h1 h2)
  have a_38 : S_38.2.1 = 14 := a_38
  have b_38 : S_38.2.2 = 14 := b_38
  refine mj_dup d_IL_init_41 rfl ?_
  refine mz_ctorN d_IL_init_42 (m_Tw_init (d := 1) (o := 13) (w := 14) a_38 b_38 (by decide) (by decide) r_13 (by omega)) cw_Tw_init lk_IL_32 rfl (by omega) rfl (by decide) (by decide) (fun S_42 h_42 => ?_)
  obtain ⟨⟨a_42, b_42, q_42⟩, r_13, r_14, r_15, r_16⟩ := h_42
  have e_34 := (q_42 0 (by decide) (by decide)).trans e_34
  have r_1 := (q_42 1 (by decide) (by decide)).trans r_1
  have r_2 := (q_42 2 (by decide) (by decide)).trans r_2
  have r_3 := (q_42 3 (by decide) (by decide)).trans r_3
  have r_4 := (q_42 4 (by decide) (by decide)).trans r_4
  have r_5 := (q_42 5 (by decide) (by decide)).trans r_5
  have r_6 := (q_42 6 (by decide) (by decide)).trans r_6
  have r_7 := (q_42 7 (by decide) (by decide)).trans r_7
  have r_8 := (q_42 8 (by decide) (by decide)).trans r_8
  have r_9 := (q_42 9 (by decide) (by decide)).trans r_9
  have r_10 := (q_42 10 (by decide) (by decide)).trans r_10
  have r_11 := (q_42 11 (by decide) (by decide)).trans r_11
  have r_12 := (q_42 12 (by decide) (by decide)).trans r_12
  have fr : ∀ j, j < 1 → j ≠ 0 → S_42.1 j = S.1 j := fun j h1 h2 => (q_42 j (Nat.lt_of_lt_of_le h1 (by decide)) (Nat.ne_of_lt (Nat.lt_of_lt_of_le h1 (by decide)))).trans (fr j h1 h2)
  have a_42 : S_42.2.1 = 17 := a_42
  have b_42 : S_42.2.2 = 17 := b_42
  refine mz_putF (ci := 0) (j := 3) d_IL_init_45 rfl w_IL_33 (by decide) ⟨rfl, rfl, wl_IL_33⟩ (by rw [a_42]; decide) e_34 (Nat.le_of_ble_eq_true rfl) (⟨rfl, rfl⟩) rfl (fun S_45 a_45 e_45 f_45 => ?_)
  have r_1 := f_45.at r_1 (by decide)
  have r_2 := f_45.at r_2 (by decide)
  have r_3 := f_45.at r_3 (by decide)
  have r_4 := f_45.at r_4 (by decide)
  have r_5 := f_45.at r_5 (by decide)
  have r_6 := f_45.at r_6 (by decide)
  have r_7 := f_45.at r_7 (by decide)
  have r_8 := f_45.at r_8 (by decide)
  have r_9 := f_45.at r_9 (by decide)
  have r_10 := f_45.at r_10 (by decide)
  have r_11 := f_45.at r_11 (by decide)
  have r_12 := f_45.at r_12 (by decide)
  have r_13 := f_45.at r_13 (by decide)
  have r_14 := f_45.at r_14 (by decide)
  have r_15 := f_45.at r_15 (by decide)
  have r_16 := f_45.at r_16 (by decide)
  have fr : ∀ j, j < 1 → j ≠ 0 → S_45.1 j = S.1 j := fun j h1 h2 => (f_45.2 j (fun hj => h2 (List.mem_singleton.mp hj))).trans (fr j h1 h2)
  have b_45 : S_45.2.2 = 17 := (congrArg Prod.snd f_45.1).trans b_42
  have a_45 : S_45.2.1 = 17 := a_45.trans a_42
  refine mj_aload_n d_IL_init_48 rfl ?_
  refine mz_newo (ci := 6) (w := 17) (fs := [.null, .null, .int (iZ 0), .int (iZ 0), .int (iZ 0)]) d_IL_init_49 rfl nw_IL_37 ia_Nu ini_Nu (by decide +kernel) rfl a_45 b_45 (by decide) (by decide) (by decide) (fun S_49 a_49 b_49 r_17 q_49 => ?_)
  have e_45 := (q_49 0 (by decide)).trans e_45
  have r_1 := (q_49 1 (by decide)).trans r_1
  have r_2 := (q_49 2 (by decide)).trans r_2
  have r_3 := (q_49 3 (by decide)).trans r_3
  have r_4 := (q_49 4 (by decide)).trans r_4
  have r_5 := (q_49 5 (by decide)).trans r_5
  have r_6 := (q_49 6 (by decide)).trans r_6
  have r_7 := (q_49 7 (by decide)).trans r_7
  have r_8 := (q_49 8 (by decide)).trans r_8
  have r_9 := (q_49 9 (by decide)).trans r_9
  have r_10 := (q_49 10 (by decide)).trans r_10
  have r_11 := (q_49 11 (by decide)).trans r_11
  have r_12 := (q_49 12 (by decide)).trans r_12
  have r_13 := (q_49 13 (by decide)).trans r_13
  have r_14 := (q_49 14 (by decide)).trans r_14
  have r_15 := (q_49 15 (by decide)).trans r_15
  have r_16 := (q_49 16 (by decide)).trans r_16
  have fr : ∀ j, j < 1 → j ≠ 0 → S_49.1 j = S.1 j := fun j h1 h2 => (q_49 j (Nat.ne_of_lt (Nat.lt_of_lt_of_le h1 (by decide)))).trans (fr j h1 h2)
  have a_49 : S_49.2.1 = 18 := a_49
  have b_49 : S_49.2.2 = 18 := b_49
  refine mj_dup d_IL_init_52 rfl ?_
  refine mz_ctorN d_IL_init_53 (m_Nu_init (d := 1) (o := 17) (w := 18) a_49 b_49 (by decide) (by decide) r_17 (by omega)) cw_Nu_init lk_IL_39 rfl (by omega) rfl (by decide) (by decide) (fun S_53 h_53 => ?_)
  obtain ⟨⟨a_53, b_53, q_53⟩, r_17, r_18, r_19⟩ := h_53
  have e_45 := (q_53 0 (by decide) (by decide)).trans e_45
  have r_1 := (q_53 1 (by decide) (by decide)).trans r_1
  have r_2 := (q_53 2 (by decide) (by decide)).trans r_2
  have r_3 := (q_53 3 (by decide) (by decide)).trans r_3
  have r_4 := (q_53 4 (by decide) (by decide)).trans r_4
  have r_5 := (q_53 5 (by decide) (by decide)).trans r_5
  have r_6 := (q_53 6 (by decide) (by decide)).trans r_6
  have r_7 := (q_53 7 (by decide) (by decide)).trans r_7
  have r_8 := (q_53 8 (by decide) (by decide)).trans r_8
  have r_9 := (q_53 9 (by decide) (by decide)).trans r_9
  have r_10 := (q_53 10 (by decide) (by decide)).trans r_10
  have r_11 := (q_53 11 (by decide) (by decide)).trans r_11
  have r_12 := (q_53 12 (by decide) (by decide)).trans r_12
  have r_13 := (q_53 13 (by decide) (by decide)).trans r_13
  have r_14 := (q_53 14 (by decide) (by decide)).trans r_14
  have r_15 := (q_53 15 (by decide) (by decide)).trans r_15
  have r_16 := (q_53 16 (by decide) (by decide)).trans r_16
  have fr : ∀ j, j < 1 → j ≠ 0 → S_53.1 j = S.1 j := fun j h1 h2 => (q_53 j (Nat.lt_of_lt_of_le h1 (by decide)) (Nat.ne_of_lt (Nat.lt_of_lt_of_le h1 (by decide)))).trans (fr j h1 h2)
  have a_53 : S_53.2.1 = 20 := a_53
  have b_53 : S_53.2.2 = 20 := b_53
  refine mz_putF (ci := 0) (j := 4) d_IL_init_56 rfl w_IL_40 (by decide) ⟨rfl, rfl, wl_IL_40⟩ (by rw [a_53]; decide) e_45 (Nat.le_of_ble_eq_true rfl) (⟨rfl, rfl⟩) rfl (fun S_56 a_56 e_56 f_56 => ?_)
  have r_1 := f_56.at r_1 (by decide)
  have r_2 := f_56.at r_2 (by decide)
  have r_3 := f_56.at r_3 (by decide)
  have r_4 := f_56.at r_4 (by decide)
  have r_5 := f_56.at r_5 (by decide)
  have r_6 := f_56.at r_6 (by decide)
  have r_7 := f_56.at r_7 (by decide)
  have r_8 := f_56.at r_8 (by decide)
  have r_9 := f_56.at r_9 (by decide)
  have r_10 := f_56.at r_10 (by decide)
  have r_11 := f_56.at r_11 (by decide)
  have r_12 := f_56.at r_12 (by decide)
  have r_13 := f_56.at r_13 (by decide)
  have r_14 := f_56.at r_14 (by decide)
  have r_15 := f_56.at r_15 (by decide)
  have r_16 := f_56.at r_16 (by decide)
  have r_17 := f_56.at r_17 (by decide)
  have r_18 := f_56.at r_18 (by decide)
  have r_19 := f_56.at r_19 (by decide)
  have fr : ∀ j, j < 1 → j ≠ 0 → S_56.1 j = S.1 j := fun j h1 h2 => (f_56.2 j (fun hj => h2 (List.mem_singleton.mp hj))).trans (fr j h1 h2)
  have b_56 : S_56.2.2 = 20 := (congrArg Prod.snd f_56.1).trans b_53
  have a_56 : S_56.2.1 = 20 := a_56.trans a_53
  refine mj_aload_n d_IL_init_59 rfl ?_
  refine mz_newo (ci := 7) (w := 20) (fs := [.null, .null, .null, .null, .null]) d_IL_init_60 rfl nw_IL_44 ia_Ls ini_Ls (by decide +kernel) rfl a_56 b_56 (by decide) (by decide) (by decide) (fun S_60 a_60 b_60 r_20 q_60 => ?_)
  have e_56 := (q_60 0 (by decide)).trans e_56
  have r_1 := (q_60 1 (by decide)).trans r_1
  have r_2 := (q_60 2 (by decide)).trans r_2
  have r_3 := (q_60 3 (by decide)).trans r_3
  have r_4 := (q_60 4 (by decide)).trans r_4
  have r_5 := (q_60 5 (by decide)).trans r_5
  have r_6 := (q_60 6 (by decide)).trans r_6
  have r_7 := (q_60 7 (by decide)).trans r_7
  have r_8 := (q_60 8 (by decide)).trans r_8
  have r_9 := (q_60 9 (by decide)).trans r_9
  have r_10 := (q_60 10 (by decide)).trans r_10
  have r_11 := (q_60 11 (by decide)).trans r_11
  have r_12 := (q_60 12 (by decide)).trans r_12
  have r_13 := (q_60 13 (by decide)).trans r_13
  have r_14 := (q_60 14 (by decide)).trans r_14
  have r_15 := (q_60 15 (by decide)).trans r_15
  have r_16 := (q_60 16 (by decide)).trans r_16
  have r_17 := (q_60 17 (by decide)).trans r_17
  have r_18 := (q_60 18 (by decide)).trans r_18
  have r_19 := (q_60 19 (by decide)).trans r_19
  have fr : ∀ j, j < 1 → j ≠ 0 → S_60.1 j = S.1 j := fun j h1 h2 => (q_60 j (Nat.ne_of_lt (Nat.lt_of_lt_of_le h1 (by decide)))).trans (fr j h1 h2)
  have a_60 : S_60.2.1 = 21 := a_60
  have b_60 : S_60.2.2 = 21 := b_60
  refine mj_dup d_IL_init_63 rfl ?_
  refine mz_ctorN d_IL_init_64 (m_Ls_init (d := 2) a_60 b_60 r_20 (by omega)) cw_Ls_init lk_IL_46 rfl (by omega) rfl (by decide) (by decide) (fun S_64 h_64 => ?_)
  obtain ⟨⟨a_64, b_64, q_64⟩, r_20, r_21, r_22, r_23, r_24, r_25, r_26, r_27, r_28, r_29, r_30, r_31, r_32⟩ := h_64
  have e_56 := (q_64 0 (by decide) (by decide)).trans e_56
  have r_1 := (q_64 1 (by decide) (by decide)).trans r_1
  have r_2 := (q_64 2 (by decide) (by decide)).trans r_2
  have r_3 := (q_64 3 (by decide) (by decide)).trans r_3
  have r_4 := (q_64 4 (by decide) (by decide)).trans r_4
  have r_5 := (q_64 5 (by decide) (by decide)).trans r_5
  have r_6 := (q_64 6 (by decide) (by decide)).trans r_6
  have r_7 := (q_64 7 (by decide) (by decide)).trans r_7
  have r_8 := (q_64 8 (by decide) (by decide)).trans r_8
  have r_9 := (q_64 9 (by decide) (by decide)).trans r_9
  have r_10 := (q_64 10 (by decide) (by decide)).trans r_10
  have r_11 := (q_64 11 (by decide) (by decide)).trans r_11
  have r_12 := (q_64 12 (by decide) (by decide)).trans r_12
  have r_13 := (q_64 13 (by decide) (by decide)).trans r_13
  have r_14 := (q_64 14 (by decide) (by decide)).trans r_14
  have r_15 := (q_64 15 (by decide) (by decide)).trans r_15
  have r_16 := (q_64 16 (by decide) (by decide)).trans r_16
  have r_17 := (q_64 17 (by decide) (by decide)).trans r_17
  have r_18 := (q_64 18 (by decide) (by decide)).trans r_18
  have r_19 := (q_64 19 (by decide) (by decide)).trans r_19
  have fr : ∀ j, j < 1 → j ≠ 0 → S_64.1 j = S.1 j := fun j h1 h2 => (q_64 j (Nat.lt_of_lt_of_le h1 (by decide)) (Nat.ne_of_lt (Nat.lt_of_lt_of_le h1 (by decide)))).trans (fr j h1 h2)
  have a_64 : S_64.2.1 = 33 := a_64
  have b_64 : S_64.2.2 = 33 := b_64
  refine mz_putF (ci := 0) (j := 5) d_IL_init_67 rfl w_IL_47 (by decide) ⟨rfl, rfl, wl_IL_47⟩ (by rw [a_64]; decide) e_56 (Nat.le_of_ble_eq_true rfl) (⟨rfl, rfl⟩) rfl (fun S_67 a_67 e_67 f_67 => ?_)
  have r_1 := f_67.at r_1 (by decide)
  have r_2 := f_67.at r_2 (by decide)
  have r_3 := f_67.at r_3 (by decide)
  have r_4 := f_67.at r_4 (by decide)
  have r_5 := f_67.at r_5 (by decide)
  have r_6 := f_67.at r_6 (by decide)
  have r_7 := f_67.at r_7 (by decide)
  have r_8 := f_67.at r_8 (by decide)
  have r_9 := f_67.at r_9 (by decide)
  have r_10 := f_67.at r_10 (by decide)
  have r_11 := f_67.at r_11 (by decide)
  have r_12 := f_67.at r_12 (by decide)
  have r_13 := f_67.at r_13 (by decide)
  have r_14 := f_67.at r_14 (by decide)
  have r_15 := f_67.at r_15 (by decide)
  have r_16 := f_67.at r_16 (by decide)
  have r_17 := f_67.at r_17 (by decide)
  have r_18 := f_67.at r_18 (by decide)
  have r_19 := f_67.at r_19 (by decide)
  have r_20 := f_67.at r_20 (by decide)
  have r_21 := f_67.at r_21 (by decide)
  have r_22 := f_67.at r_22 (by decide)
  have r_23 := f_67.at r_23 (by decide)
  have r_24 := f_67.at r_24 (by decide)
  have r_25 := f_67.at r_25 (by decide)
  have r_26 := f_67.at r_26 (by decide)
  have r_27 := f_67.at r_27 (by decide)
  have r_28 := f_67.at r_28 (by decide)
  have r_29 := f_67.at r_29 (by decide)
  have r_30 := f_67.at r_30 (by decide)
  have r_31 := f_67.at r_31 (by decide)
  have r_32 := f_67.at r_32 (by decide)
  have fr : ∀ j, j < 1 → j ≠ 0 → S_67.1 j = S.1 j := fun j h1 h2 => (f_67.2 j (fun hj => h2 (List.mem_singleton.mp hj))).trans (fr j h1 h2)
  have b_67 : S_67.2.2 = 33 := (congrArg Prod.snd f_67.1).trans b_64
  have a_67 : S_67.2.1 = 33 := a_67.trans a_64
  refine mj_aload_n d_IL_init_70 rfl ?_
  refine mz_newo (ci := 4) (w := 33) (fs := [.null, .null, .null, .int (iZ 0)]) d_IL_init_71 rfl nw_IL_51 ia_Ml ini_Ml (by decide +kernel) rfl a_67 b_67 (by decide) (by decide) (by decide) (fun S_71 a_71 b_71 r_33 q_71 => ?_)
  have e_67 := (q_71 0 (by decide)).trans e_67
  have r_1 := (q_71 1 (by decide)).trans r_1
  have r_2 := (q_71 2 (by decide)).trans r_2
  have r_3 := (q_71 3 (by decide)).trans r_3
  have r_4 := (q_71 4 (by decide)).trans r_4
  have r_5 := (q_71 5 (by decide)).trans r_5
  have r_6 := (q_71 6 (by decide)).trans r_6
  have r_7 := (q_71 7 (by decide)).trans r_7
  have r_8 := (q_71 8 (by decide)).trans r_8
  have r_9 := (q_71 9 (by decide)).trans r_9
  have r_10 := (q_71 10 (by decide)).trans r_10
  have r_11 := (q_71 11 (by decide)).trans r_11
  have r_12 := (q_71 12 (by decide)).trans r_12
  have r_13 := (q_71 13 (by decide)).trans r_13
  have r_14 := (q_71 14 (by decide)).trans r_14
  have r_15 := (q_71 15 (by decide)).trans r_15
  have r_16 := (q_71 16 (by decide)).trans r_16
  have r_17 := (q_71 17 (by decide)).trans r_17
  have r_18 := (q_71 18 (by decide)).trans r_18
  have r_19 := (q_71 19 (by decide)).trans r_19
  have r_20 := (q_71 20 (by decide)).trans r_20
  have r_21 := (q_71 21 (by decide)).trans r_21
  have r_22 := (q_71 22 (by decide)).trans r_22
  have r_23 := (q_71 23 (by decide)).trans r_23
  have r_24 := (q_71 24 (by decide)).trans r_24
  have r_25 := (q_71 25 (by decide)).trans r_25
  have r_26 := (q_71 26 (by decide)).trans r_26
  have r_27 := (q_71 27 (by decide)).trans r_27
  have r_28 := (q_71 28 (by decide)).trans r_28
  have r_29 := (q_71 29 (by decide)).trans r_29
  have r_30 := (q_71 30 (by decide)).trans r_30
  have r_31 := (q_71 31 (by decide)).trans r_31
  have r_32 := (q_71 32 (by decide)).trans r_32
  have fr : ∀ j, j < 1 → j ≠ 0 → S_71.1 j = S.1 j := fun j h1 h2 => (q_71 j (Nat.ne_of_lt (Nat.lt_of_lt_of_le h1 (by decide)))).trans (fr j h1 h2)
  have a_71 : S_71.2.1 = 34 := a_71
  have b_71 : S_71.2.2 = 34 := b_71
  refine mj_dup d_IL_init_74 rfl ?_
  refine mz_ctorN d_IL_init_75 (m_Ml_init (d := 1) (o := 33) (w := 34) a_71 b_71 (by decide) (by decide) r_33 (by omega)) cw_Ml_init lk_IL_53 rfl (by omega) rfl (by decide) (by decide) (fun S_75 h_75 => ?_)
  obtain ⟨⟨a_75, b_75, q_75⟩, r_33, r_34, r_35, r_36⟩ := h_75
  have e_67 := (q_75 0 (by decide) (by decide)).trans e_67
  have r_1 := (q_75 1 (by decide) (by decide)).trans r_1
  have r_2 := (q_75 2 (by decide) (by decide)).trans r_2
  have r_3 := (q_75 3 (by decide) (by decide)).trans r_3
  have r_4 := (q_75 4 (by decide) (by decide)).trans r_4
  have r_5 := (q_75 5 (by decide) (by decide)).trans r_5
  have r_6 := (q_75 6 (by decide) (by decide)).trans r_6
  have r_7 := (q_75 7 (by decide) (by decide)).trans r_7
  have r_8 := (q_75 8 (by decide) (by decide)).trans r_8
  have r_9 := (q_75 9 (by decide) (by decide)).trans r_9
  have r_10 := (q_75 10 (by decide) (by decide)).trans r_10
  have r_11 := (q_75 11 (by decide) (by decide)).trans r_11
  have r_12 := (q_75 12 (by decide) (by decide)).trans r_12
  have r_13 := (q_75 13 (by decide) (by decide)).trans r_13
  have r_14 := (q_75 14 (by decide) (by decide)).trans r_14
  have r_15 := (q_75 15 (by decide) (by decide)).trans r_15
  have r_16 := (q_75 16 (by decide) (by decide)).trans r_16
  have r_17 := (q_75 17 (by decide) (by decide)).trans r_17
  have r_18 := (q_75 18 (by decide) (by decide)).trans r_18
  have r_19 := (q_75 19 (by decide) (by decide)).trans r_19
  have r_20 := (q_75 20 (by decide) (by decide)).trans r_20
  have r_21 := (q_75 21 (by decide) (by decide)).trans r_21
  have r_22 := (q_75 22 (by decide) (by decide)).trans r_22
  have r_23 := (q_75 23 (by decide) (by decide)).trans r_23
  have r_24 := (q_75 24 (by decide) (by decide)).trans r_24
  have r_25 := (q_75 25 (by decide) (by decide)).trans r_25
  have r_26 := (q_75 26 (by decide) (by decide)).trans r_26
  have r_27 := (q_75 27 (by decide) (by decide)).trans r_27
  have r_28 := (q_75 28 (by decide) (by decide)).trans r_28
  have r_29 := (q_75 29 (by decide) (by decide)).trans r_29
  have r_30 := (q_75 30 (by decide) (by decide)).trans r_30
  have r_31 := (q_75 31 (by decide) (by decide)).trans r_31
  have r_32 := (q_75 32 (by decide) (by decide)).trans r_32
  have fr : ∀ j, j < 1 → j ≠ 0 → S_75.1 j = S.1 j := fun j h1 h2 => (q_75 j (Nat.lt_of_lt_of_le h1 (by decide)) (Nat.ne_of_lt (Nat.lt_of_lt_of_le h1 (by decide)))).trans (fr j h1 h2)
  have a_75 : S_75.2.1 = 37 := a_75
  have b_75 : S_75.2.2 = 37 := b_75
  refine mz_putF (ci := 0) (j := 6) d_IL_init_78 rfl w_IL_54 (by decide) ⟨rfl, rfl, wl_IL_54⟩ (by rw [a_75]; decide) e_67 (Nat.le_of_ble_eq_true rfl) (⟨rfl, rfl⟩) rfl (fun S_78 a_78 e_78 f_78 => ?_)
  have r_1 := f_78.at r_1 (by decide)
  have r_2 := f_78.at r_2 (by decide)
  have r_3 := f_78.at r_3 (by decide)
  have r_4 := f_78.at r_4 (by decide)
  have r_5 := f_78.at r_5 (by decide)
  have r_6 := f_78.at r_6 (by decide)
  have r_7 := f_78.at r_7 (by decide)
  have r_8 := f_78.at r_8 (by decide)
  have r_9 := f_78.at r_9 (by decide)
  have r_10 := f_78.at r_10 (by decide)
  have r_11 := f_78.at r_11 (by decide)
  have r_12 := f_78.at r_12 (by decide)
  have r_13 := f_78.at r_13 (by decide)
  have r_14 := f_78.at r_14 (by decide)
  have r_15 := f_78.at r_15 (by decide)
  have r_16 := f_78.at r_16 (by decide)
  have r_17 := f_78.at r_17 (by decide)
  have r_18 := f_78.at r_18 (by decide)
  have r_19 := f_78.at r_19 (by decide)
  have r_20 := f_78.at r_20 (by decide)
  have r_21 := f_78.at r_21 (by decide)
  have r_22 := f_78.at r_22 (by decide)
  have r_23 := f_78.at r_23 (by decide)
  have r_24 := f_78.at r_24 (by decide)
  have r_25 := f_78.at r_25 (by decide)
  have r_26 := f_78.at r_26 (by decide)
  have r_27 := f_78.at r_27 (by decide)
  have r_28 := f_78.at r_28 (by decide)
  have r_29 := f_78.at r_29 (by decide)
  have r_30 := f_78.at r_30 (by decide)
  have r_31 := f_78.at r_31 (by decide)
  have r_32 := f_78.at r_32 (by decide)
  have r_33 := f_78.at r_33 (by decide)
  have r_34 := f_78.at r_34 (by decide)
  have r_35 := f_78.at r_35 (by decide)
  have r_36 := f_78.at r_36 (by decide)
  have fr : ∀ j, j < 1 → j ≠ 0 → S_78.1 j = S.1 j := fun j h1 h2 => (f_78.2 j (fun hj => h2 (List.mem_singleton.mp hj))).trans (fr j h1 h2)
  have b_78 : S_78.2.2 = 37 := (congrArg Prod.snd f_78.1).trans b_75
  have a_78 : S_78.2.1 = 37 := a_78.trans a_75
  refine mj_aload_n d_IL_init_81 rfl ?_
  refine mz_newo (ci := 8) (w := 37) (fs := [.null, .null, .int (iZ 0), .int (iZ 0), .int (iZ 0)]) d_IL_init_82 rfl nw_IL_58 ia_Ca ini_Ca (by decide +kernel) rfl a_78 b_78 (by decide) (by decide) (by decide) (fun S_82 a_82 b_82 r_37 q_82 => ?_)
  have e_78 := (q_82 0 (by decide)).trans e_78
  have r_1 := (q_82 1 (by decide)).trans r_1
  have r_2 := (q_82 2 (by decide)).trans r_2
  have r_3 := (q_82 3 (by decide)).trans r_3
  have r_4 := (q_82 4 (by decide)).trans r_4
  have r_5 := (q_82 5 (by decide)).trans r_5
  have r_6 := (q_82 6 (by decide)).trans r_6
  have r_7 := (q_82 7 (by decide)).trans r_7
  have r_8 := (q_82 8 (by decide)).trans r_8
  have r_9 := (q_82 9 (by decide)).trans r_9
  have r_10 := (q_82 10 (by decide)).trans r_10
  have r_11 := (q_82 11 (by decide)).trans r_11
  have r_12 := (q_82 12 (by decide)).trans r_12
  have r_13 := (q_82 13 (by decide)).trans r_13
  have r_14 := (q_82 14 (by decide)).trans r_14
  have r_15 := (q_82 15 (by decide)).trans r_15
  have r_16 := (q_82 16 (by decide)).trans r_16
  have r_17 := (q_82 17 (by decide)).trans r_17
  have r_18 := (q_82 18 (by decide)).trans r_18
  have r_19 := (q_82 19 (by decide)).trans r_19
  have r_20 := (q_82 20 (by decide)).trans r_20
  have r_21 := (q_82 21 (by decide)).trans r_21
  have r_22 := (q_82 22 (by decide)).trans r_22
  have r_23 := (q_82 23 (by decide)).trans r_23
  have r_24 := (q_82 24 (by decide)).trans r_24
  have r_25 := (q_82 25 (by decide)).trans r_25
  have r_26 := (q_82 26 (by decide)).trans r_26
  have r_27 := (q_82 27 (by decide)).trans r_27
  have r_28 := (q_82 28 (by decide)).trans r_28
  have r_29 := (q_82 29 (by decide)).trans r_29
  have r_30 := (q_82 30 (by decide)).trans r_30
  have r_31 := (q_82 31 (by decide)).trans r_31
  have r_32 := (q_82 32 (by decide)).trans r_32
  have r_33 := (q_82 33 (by decide)).trans r_33
  have r_34 := (q_82 34 (by decide)).trans r_34
  have r_35 := (q_82 35 (by decide)).trans r_35
  have r_36 := (q_82 36 (by decide)).trans r_36
  have fr : ∀ j, j < 1 → j ≠ 0 → S_82.1 j = S.1 j := fun j h1 h2 => (q_82 j (Nat.ne_of_lt (Nat.lt_of_lt_of_le h1 (by decide)))).trans (fr j h1 h2)
  have a_82 : S_82.2.1 = 38 := a_82
  have b_82 : S_82.2.2 = 38 := b_82
  refine mj_dup d_IL_init_85 rfl ?_
  refine mz_ctorN d_IL_init_86 (m_Ca_init (d := 1) (o := 37) (w := 38) a_82 b_82 (by decide) (by decide) r_37 (by omega)) cw_Ca_init lk_IL_60 rfl (by omega) rfl (by decide) (by decide) (fun S_86 h_86 => ?_)
  obtain ⟨⟨a_86, b_86, q_86⟩, r_37, r_38, r_39⟩ := h_86
  have e_78 := (q_86 0 (by decide) (by decide)).trans e_78
  have r_1 := (q_86 1 (by decide) (by decide)).trans r_1
  have r_2 := (q_86 2 (by decide) (by decide)).trans r_2
  have r_3 := (q_86 3 (by decide) (by decide)).trans r_3
  have r_4 := (q_86 4 (by decide) (by decide)).trans r_4
  have r_5 := (q_86 5 (by decide) (by decide)).trans r_5
  have r_6 := (q_86 6 (by decide) (by decide)).trans r_6
  have r_7 := (q_86 7 (by decide) (by decide)).trans r_7
  have r_8 := (q_86 8 (by decide) (by decide)).trans r_8
  have r_9 := (q_86 9 (by decide) (by decide)).trans r_9
  have r_10 := (q_86 10 (by decide) (by decide)).trans r_10
  have r_11 := (q_86 11 (by decide) (by decide)).trans r_11
  have r_12 := (q_86 12 (by decide) (by decide)).trans r_12
  have r_13 := (q_86 13 (by decide) (by decide)).trans r_13
  have r_14 := (q_86 14 (by decide) (by decide)).trans r_14
  have r_15 := (q_86 15 (by decide) (by decide)).trans r_15
  have r_16 := (q_86 16 (by decide) (by decide)).trans r_16
  have r_17 := (q_86 17 (by decide) (by decide)).trans r_17
  have r_18 := (q_86 18 (by decide) (by decide)).trans r_18
  have r_19 := (q_86 19 (by decide) (by decide)).trans r_19
  have r_20 := (q_86 20 (by decide) (by decide)).trans r_20
  have r_21 := (q_86 21 (by decide) (by decide)).trans r_21
  have r_22 := (q_86 22 (by decide) (by decide)).trans r_22
  have r_23 := (q_86 23 (by decide) (by decide)).trans r_23
  have r_24 := (q_86 24 (by decide) (by decide)).trans r_24
  have r_25 := (q_86 25 (by decide) (by decide)).trans r_25
  have r_26 := (q_86 26 (by decide) (by decide)).trans r_26
  have r_27 := (q_86 27 (by decide) (by decide)).trans r_27
  have r_28 := (q_86 28 (by decide) (by decide)).trans r_28
  have r_29 := (q_86 29 (by decide) (by decide)).trans r_29
  have r_30 := (q_86 30 (by decide) (by decide)).trans r_30
  have r_31 := (q_86 31 (by decide) (by decide)).trans r_31
  have r_32 := (q_86 32 (by decide) (by decide)).trans r_32
  have r_33 := (q_86 33 (by decide) (by decide)).trans r_33
  have r_34 := (q_86 34 (by decide) (by decide)).trans r_34
  have r_35 := (q_86 35 (by decide) (by decide)).trans r_35
  have r_36 := (q_86 36 (by decide) (by decide)).trans r_36
  have fr : ∀ j, j < 1 → j ≠ 0 → S_86.1 j = S.1 j := fun j h1 h2 => (q_86 j (Nat.lt_of_lt_of_le h1 (by decide)) (Nat.ne_of_lt (Nat.lt_of_lt_of_le h1 (by decide)))).trans (fr j h1 h2)
  have a_86 : S_86.2.1 = 40 := a_86
  have b_86 : S_86.2.2 = 40 := b_86
  refine mz_putF (ci := 0) (j := 7) d_IL_init_89 rfl w_IL_61 (by decide) ⟨rfl, rfl, wl_IL_61⟩ (by rw [a_86]; decide) e_78 (Nat.le_of_ble_eq_true rfl) (⟨rfl, rfl⟩) rfl (fun S_89 a_89 e_89 f_89 => ?_)
  have r_1 := f_89.at r_1 (by decide)
  have r_2 := f_89.at r_2 (by decide)
  have r_3 := f_89.at r_3 (by decide)
  have r_4 := f_89.at r_4 (by decide)
  have r_5 := f_89.at r_5 (by decide)
  have r_6 := f_89.at r_6 (by decide)
  have r_7 := f_89.at r_7 (by decide)
  have r_8 := f_89.at r_8 (by decide)
  have r_9 := f_89.at r_9 (by decide)
  have r_10 := f_89.at r_10 (by decide)
  have r_11 := f_89.at r_11 (by decide)
  have r_12 := f_89.at r_12 (by decide)
  have r_13 := f_89.at r_13 (by decide)
  have r_14 := f_89.at r_14 (by decide)
  have r_15 := f_89.at r_15 (by decide)
  have r_16 := f_89.at r_16 (by decide)
  have r_17 := f_89.at r_17 (by decide)
  have r_18 := f_89.at r_18 (by decide)
  have r_19 := f_89.at r_19 (by decide)
  have r_20 := f_89.at r_20 (by decide)
  have r_21 := f_89.at r_21 (by decide)
  have r_22 := f_89.at r_22 (by decide)
  have r_23 := f_89.at r_23 (by decide)
  have r_24 := f_89.at r_24 (by decide)
  have r_25 := f_89.at r_25 (by decide)
  have r_26 := f_89.at r_26 (by decide)
  have r_27 := f_89.at r_27 (by decide)
  have r_28 := f_89.at r_28 (by decide)
  have r_29 := f_89.at r_29 (by decide)
  have r_30 := f_89.at r_30 (by decide)
  have r_31 := f_89.at r_31 (by decide)
  have r_32 := f_89.at r_32 (by decide)
  have r_33 := f_89.at r_33 (by decide)
  have r_34 := f_89.at r_34 (by decide)
  have r_35 := f_89.at r_35 (by decide)
  have r_36 := f_89.at r_36 (by decide)
  have r_37 := f_89.at r_37 (by decide)
  have r_38 := f_89.at r_38 (by decide)
  have r_39 := f_89.at r_39 (by decide)
  have fr : ∀ j, j < 1 → j ≠ 0 → S_89.1 j = S.1 j := fun j h1 h2 => (f_89.2 j (fun hj => h2 (List.mem_singleton.mp hj))).trans (fr j h1 h2)
  have b_89 : S_89.2.2 = 40 := (congrArg Prod.snd f_89.1).trans b_86
  have a_89 : S_89.2.1 = 40 := a_89.trans a_86
  refine mj_aload_n d_IL_init_92 rfl ?_
  refine mz_iconst d_IL_init_93 ?_
  refine mz_put (ci := 0) (j := 8) d_IL_init_94 rfl w_IL_65 (by decide) rfl (by rw [a_89]; decide) e_89 (Nat.le_of_ble_eq_true rfl) (mj_fit_int _) rfl (fun S_94 a_94 e_94 f_94 => ?_)
  have r_1 := f_94.at r_1 (by decide)
  have r_2 := f_94.at r_2 (by decide)
  have r_3 := f_94.at r_3 (by decide)
  have r_4 := f_94.at r_4 (by decide)
  have r_5 := f_94.at r_5 (by decide)
  have r_6 := f_94.at r_6 (by decide)
  have r_7 := f_94.at r_7 (by decide)
  have r_8 := f_94.at r_8 (by decide)
  have r_9 := f_94.at r_9 (by decide)
  have r_10 := f_94.at r_10 (by decide)
  have r_11 := f_94.at r_11 (by decide)
  have r_12 := f_94.at r_12 (by decide)
  have r_13 := f_94.at r_13 (by decide)
  have r_14 := f_94.at r_14 (by decide)
  have r_15 := f_94.at r_15 (by decide)
  have r_16 := f_94.at r_16 (by decide)
  have r_17 := f_94.at r_17 (by decide)
  have r_18 := f_94.at r_18 (by decide)
  have r_19 := f_94.at r_19 (by decide)
  have r_20 := f_94.at r_20 (by decide)
  have r_21 := f_94.at r_21 (by decide)
  have r_22 := f_94.at r_22 (by decide)
  have r_23 := f_94.at r_23 (by decide)
  have r_24 := f_94.at r_24 (by decide)
  have r_25 := f_94.at r_25 (by decide)
  have r_26 := f_94.at r_26 (by decide)
  have r_27 := f_94.at r_27 (by decide)
  have r_28 := f_94.at r_28 (by decide)
  have r_29 := f_94.at r_29 (by decide)
  have r_30 := f_94.at r_30 (by decide)
  have r_31 := f_94.at r_31 (by decide)
  have r_32 := f_94.at r_32 (by decide)
  have r_33 := f_94.at r_33 (by decide)
  have r_34 := f_94.at r_34 (by decide)
  have r_35 := f_94.at r_35 (by decide)
  have r_36 := f_94.at r_36 (by decide)
  have r_37 := f_94.at r_37 (by decide)
  have r_38 := f_94.at r_38 (by decide)
  have r_39 := f_94.at r_39 (by decide)
  have fr : ∀ j, j < 1 → j ≠ 0 → S_94.1 j = S.1 j := fun j h1 h2 => (f_94.2 j (fun hj => h2 (List.mem_singleton.mp hj))).trans (fr j h1 h2)
  have b_94 : S_94.2.2 = 40 := (congrArg Prod.snd f_94.1).trans b_89
  have a_94 : S_94.2.1 = 40 := a_94.trans a_89
  refine mz_vret d_IL_init_97 rfl ?_
  exact ⟨⟨a_94, b_94, fr⟩, e_94, r_1, r_2, r_3, r_4, r_5, r_6, r_7, r_8, r_9, r_10, r_11, r_12, r_13, r_14, r_15, r_16, r_17, r_18, r_19, r_20, r_21, r_22, r_23, r_24, r_25, r_26, r_27, r_28, r_29, r_30, r_31, r_32, r_33, r_34, r_35, r_36, r_37, r_38, r_39⟩
theorem m_Mo_init {S : mj_S} (hS1 : S.2.1 = 41) (hS2 : S.2.2 = 41) (he : S.1 40 = .inr (9, [.int (iZ 0), .int (iZ 0), .null, .int (iZ 0), .int (iZ 0), .int (iZ 0), .null, .int (iZ 0), .null, .int (iZ 0), .null, .null, .null, .int (iZ 0), .null, .int (iZ 0), .null, .null, .null, .int (iZ 0), .null, .null, .null, .null, .null, .null, .null, .null, .null, .null, .null, .null, .null])) (hd : 1 ≤ d) : mj_Met Γ d y_Mo_init M_Mo_init [.ref 40] S 23 15350 (mj_V fun S' => mj_cg S S' 40 41 23 ∧ S'.1 40 = .inr (9, [.int (iZ 0), .int (iZ 0), .ref 41, .int (iZ (-1)), .int (iZ 0), .int (iZ 0), .ref 42, .int (iZ 0), .ref 43, .int (iZ 0), .ref 44, .ref 45, .ref 46, .int (iZ 0), .ref 47, .int (iZ 0), .ref 48, .ref 49, .ref 50, .int (iZ 0), .ref 51, .ref 52, .ref 53, .ref 54, .ref 55, .ref 56, .ref 57, .ref 58, .ref 59, .ref 60, .ref 61, .ref 62, .ref 63]) ∧ S'.1 41 = .inl (1, 60, .inl (mj_z fun _ => 0)) ∧ S'.1 42 = .inl (0, 6, .inl (mj_z fun _ => 0)) ∧ S'.1 43 = .inl (0, 7500, .inl (mj_z fun _ => 0)) ∧ S'.1 44 = .inl (0, 6, .inl (mj_z fun _ => 0)) ∧ S'.1 45 = .inl (0, 15, .inl (mj_z fun _ => 0)) ∧ S'.1 46 = .inl (0, 6, .inl (mj_z fun _ => 0)) ∧ S'.1 47 = .inl (0, 16, .inl (mj_z fun _ => 0)) ∧ S'.1 48 = .inl (0, 7515, .inl (mj_z fun _ => 0)) ∧ S'.1 49 = .inl (0, 7, .inl (mj_z fun _ => 0)) ∧ S'.1 50 = .inl (2, 6, .inl (mj_z fun _ => 0)) ∧ S'.1 51 = .inl (0, 6, .inl (mj_z fun _ => 0)) ∧ S'.1 52 = .inl (0, 36, .inl (mj_z fun _ => 0)) ∧ S'.1 53 = .inl (0, 15, .inl (mj_z fun _ => 0)) ∧ S'.1 54 = .inl (0, 10, .inl (mj_z fun _ => 0)) ∧ S'.1 55 = .inl (0, 60, .inl (mj_z fun _ => 0)) ∧ S'.1 56 = .inl (0, 10, .inl (mj_z fun _ => 0)) ∧ S'.1 57 = .inl (0, 10, .inl (mj_z fun _ => 0)) ∧ S'.1 58 = .inl (0, 6, .inl (mj_z fun _ => 0)) ∧ S'.1 59 = .inl (0, 36, .inl (mj_z fun _ => 0)) ∧ S'.1 60 = .inl (0, 6, .inl (mj_z fun _ => 0)) ∧ S'.1 61 = .inl (2, 6, .inl (mj_z fun _ => 0)) ∧ S'.1 62 = .inl (2, 6, .inl (mj_z fun _ => 0)) ∧ S'.1 63 = .inl (0, 6, .inl (mj_z fun _ => 0))) := by
  refine mj_Met.of (by decide) ⟨rfl, rfl⟩ rfl rfl rfl ?_
  refine mj_aload_n d_Mo_init_0 rfl ?_
  refine mj_objInit d_Mo_init_1 mj_obj_Mo (by omega) rfl ?_
  refine mj_aload_n d_Mo_init_4 rfl ?_
  refine mz_bipush d_Mo_init_5 (by decide) ?_
  refine mz_newA (t := 1) (N := 60) (w := 41) d_Mo_init_7 rfl rfl ac_C (by decide) (by decide) hS1 hS2 (by decide) (by decide) (by decide) (fun S_7 a_7 b_7 r_41 q_7 => ?_)
  have he := (q_7 40 (by decide)).trans he
  have fr : ∀ j, j < 41 → j ≠ 40 → S_7.1 j = S.1 j := fun j h1 h2 => (q_7 j (Nat.ne_of_lt (Nat.lt_of_lt_of_le h1 (by decide))))
  have a_7 : S_7.2.1 = 42 := a_7
  have b_7 : S_7.2.2 = 42 := b_7
  refine mz_putF (ci := 9) (j := 2) d_Mo_init_9 rfl w_Mo_7 (by decide) ⟨rfl, rfl, wl_Mo_7⟩ (by rw [a_7]; decide) he (Nat.le_of_ble_eq_true rfl) (⟨rfl, rfl⟩) rfl (fun S_9 a_9 e_9 f_9 => ?_)
  have r_41 := f_9.at r_41 (by decide)
  have fr : ∀ j, j < 41 → j ≠ 40 → S_9.1 j = S.1 j := fun j h1 h2 => (f_9.2 j (fun hj => h2 (List.mem_singleton.mp hj))).trans (fr j h1 h2)
  have b_9 : S_9.2.2 = 42 := (congrArg Prod.snd f_9.1).trans b_7
  have a_9 : S_9.2.1 = 42 := a_9.trans a_7
  refine mj_aload_n d_Mo_init_12 rfl ?_
  refine mz_iconst d_Mo_init_13 ?_
  refine mz_put (ci := 9) (j := 3) d_Mo_init_14 rfl w_Mo_13 (by decide) rfl (by rw [a_9]; decide) e_9 (Nat.le_of_ble_eq_true rfl) (mj_fit_int _) rfl (fun S_14 a_14 e_14 f_14 => ?_)
  have r_41 := f_14.at r_41 (by decide)
  have fr : ∀ j, j < 41 → j ≠ 40 → S_14.1 j = S.1 j := fun j h1 h2 => (f_14.2 j (fun hj => h2 (List.mem_singleton.mp hj))).trans (fr j h1 h2)
  have b_14 : S_14.2.2 = 42 := (congrArg Prod.snd f_14.1).trans b_9
  have a_14 : S_14.2.1 = 42 := a_14.trans a_9
  refine mj_aload_n d_Mo_init_17 rfl ?_
  refine mz_bipush d_Mo_init_18 (by decide) ?_
  refine mz_newA (t := 0) (N := 6) (w := 42) d_Mo_init_20 rfl rfl ac_I (by decide) (by decide) a_14 b_14 (by decide) (by decide) (by decide) (fun S_20 a_20 b_20 r_42 q_20 => ?_)
  have e_14 := (q_20 40 (by decide)).trans e_14
  have r_41 := (q_20 41 (by decide)).trans r_41
  have fr : ∀ j, j < 41 → j ≠ 40 → S_20.1 j = S.1 j := fun j h1 h2 => (q_20 j (Nat.ne_of_lt (Nat.lt_of_lt_of_le h1 (by decide)))).trans (fr j h1 h2)
  have a_20 : S_20.2.1 = 43 := a_20
  have b_20 : S_20.2.2 = 43 := b_20
  refine mz_putF (ci := 9) (j := 6) d_Mo_init_22 rfl w_Mo_17 (by decide) ⟨rfl, rfl, wl_Mo_17⟩ (by rw [a_20]; decide) e_14 (Nat.le_of_ble_eq_true rfl) (⟨rfl, rfl⟩) rfl (fun S_22 a_22 e_22 f_22 => ?_)
  have r_41 := f_22.at r_41 (by decide)
  have r_42 := f_22.at r_42 (by decide)
  have fr : ∀ j, j < 41 → j ≠ 40 → S_22.1 j = S.1 j := fun j h1 h2 => (f_22.2 j (fun hj => h2 (List.mem_singleton.mp hj))).trans (fr j h1 h2)
  have b_22 : S_22.2.2 = 43 := (congrArg Prod.snd f_22.1).trans b_20
  have a_22 : S_22.2.1 = 43 := a_22.trans a_20
  refine mj_aload_n d_Mo_init_25 rfl ?_
  refine mz_sipush d_Mo_init_26 (by decide) ?_
  refine mz_newA (t := 0) (N := 7500) (w := 43) d_Mo_init_29 rfl rfl ac_I (by decide) (by decide) a_22 b_22 (by decide) (by decide) (by decide) (fun S_29 a_29 b_29 r_43 q_29 => ?_)
  have e_22 := (q_29 40 (by decide)).trans e_22
  have r_41 := (q_29 41 (by decide)).trans r_41
  have r_42 := (q_29 42 (by decide)).trans r_42
  have fr : ∀ j, j < 41 → j ≠ 40 → S_29.1 j = S.1 j := fun j h1 h2 => (q_29 j (Nat.ne_of_lt (Nat.lt_of_lt_of_le h1 (by decide)))).trans (fr j h1 h2)
  have a_29 : S_29.2.1 = 44 := a_29
  have b_29 : S_29.2.2 = 44 := b_29
  refine mz_putF (ci := 9) (j := 8) d_Mo_init_31 rfl w_Mo_21 (by decide) ⟨rfl, rfl, wl_Mo_21⟩ (by rw [a_29]; decide) e_22 (Nat.le_of_ble_eq_true rfl) (⟨rfl, rfl⟩) rfl (fun S_31 a_31 e_31 f_31 => ?_)
  have r_41 := f_31.at r_41 (by decide)
  have r_42 := f_31.at r_42 (by decide)
  have r_43 := f_31.at r_43 (by decide)
  have fr : ∀ j, j < 41 → j ≠ 40 → S_31.1 j = S.1 j := fun j h1 h2 => (f_31.2 j (fun hj => h2 (List.mem_singleton.mp hj))).trans (fr j h1 h2)
  have b_31 : S_31.2.2 = 44 := (congrArg Prod.snd f_31.1).trans b_29
  have a_31 : S_31.2.1 = 44 := a_31.trans a_29
  refine mj_aload_n d_Mo_init_34 rfl ?_
  refine mz_bipush d_Mo_init_35 (by decide) ?_
  refine mz_newA (t := 0) (N := 6) (w := 44) d_Mo_init_37 rfl rfl ac_I (by decide) (by decide) a_31 b_31 (by decide) (by decide) (by decide) (fun S_37 a_37 b_37 r_44 q_37 => ?_)
  have e_31 := (q_37 40 (by decide)).trans e_31
  have r_41 := (q_37 41 (by decide)).trans r_41
  have r_42 := (q_37 42 (by decide)).trans r_42
  have r_43 := (q_37 43 (by decide)).trans r_43
  have fr : ∀ j, j < 41 → j ≠ 40 → S_37.1 j = S.1 j := fun j h1 h2 => (q_37 j (Nat.ne_of_lt (Nat.lt_of_lt_of_le h1 (by decide)))).trans (fr j h1 h2)
  have a_37 : S_37.2.1 = 45 := a_37
  have b_37 : S_37.2.2 = 45 := b_37
  refine mz_putF (ci := 9) (j := 10) d_Mo_init_39 rfl w_Mo_24 (by decide) ⟨rfl, rfl, wl_Mo_24⟩ (by rw [a_37]; decide) e_31 (Nat.le_of_ble_eq_true rfl) (⟨rfl, rfl⟩) rfl (fun S_39 a_39 e_39 f_39 => ?_)
  have r_41 := f_39.at r_41 (by decide)
  have r_42 := f_39.at r_42 (by decide)
  have r_43 := f_39.at r_43 (by decide)
  have r_44 := f_39.at r_44 (by decide)
  have fr : ∀ j, j < 41 → j ≠ 40 → S_39.1 j = S.1 j := fun j h1 h2 => (f_39.2 j (fun hj => h2 (List.mem_singleton.mp hj))).trans (fr j h1 h2)
  have b_39 : S_39.2.2 = 45 := (congrArg Prod.snd f_39.1).trans b_37
  have a_39 : S_39.2.1 = 45 := a_39.trans a_37
  refine mj_aload_n d_Mo_init_42 rfl ?_
  refine mz_bipush d_Mo_init_43 (by decide) ?_
  refine mz_newA (t := 0) (N := 15) (w := 45) d_Mo_init_45 rfl rfl ac_I (by decide) (by decide) a_39 b_39 (by decide) (by decide) (by decide) (fun S_45 a_45 b_45 r_45 q_45 => ?_)
  have e_39 := (q_45 40 (by decide)).trans e_39
  have r_41 := (q_45 41 (by decide)).trans r_41
  have r_42 := (q_45 42 (by decide)).trans r_42
  have r_43 := (q_45 43 (by decide)).trans r_43
  have r_44 := (q_45 44 (by decide)).trans r_44
  have fr : ∀ j, j < 41 → j ≠ 40 → S_45.1 j = S.1 j := fun j h1 h2 => (q_45 j (Nat.ne_of_lt (Nat.lt_of_lt_of_le h1 (by decide)))).trans (fr j h1 h2)
  have a_45 : S_45.2.1 = 46 := a_45
  have b_45 : S_45.2.2 = 46 := b_45
  refine mz_putF (ci := 9) (j := 11) d_Mo_init_47 rfl w_Mo_27 (by decide) ⟨rfl, rfl, wl_Mo_27⟩ (by rw [a_45]; decide) e_39 (Nat.le_of_ble_eq_true rfl) (⟨rfl, rfl⟩) rfl (fun S_47 a_47 e_47 f_47 => ?_)
  have r_41 := f_47.at r_41 (by decide)
  have r_42 := f_47.at r_42 (by decide)
  have r_43 := f_47.at r_43 (by decide)
  have r_44 := f_47.at r_44 (by decide)
  have r_45 := f_47.at r_45 (by decide)
  have fr : ∀ j, j < 41 → j ≠ 40 → S_47.1 j = S.1 j := fun j h1 h2 => (f_47.2 j (fun hj => h2 (List.mem_singleton.mp hj))).trans (fr j h1 h2)
  have b_47 : S_47.2.2 = 46 := (congrArg Prod.snd f_47.1).trans b_45
  have a_47 : S_47.2.1 = 46 := a_47.trans a_45
  refine mj_aload_n d_Mo_init_50 rfl ?_
  refine mz_bipush d_Mo_init_51 (by decide) ?_
  refine mz_newA (t := 0) (N := 6) (w := 46) d_Mo_init_53 rfl rfl ac_I (by decide) (by decide) a_47 b_47 (by decide) (by decide) (by decide) (fun S_53 a_53 b_53 r_46 q_53 => ?_)
  have e_47 := (q_53 40 (by decide)).trans e_47
  have r_41 := (q_53 41 (by decide)).trans r_41
  have r_42 := (q_53 42 (by decide)).trans r_42
  have r_43 := (q_53 43 (by decide)).trans r_43
  have r_44 := (q_53 44 (by decide)).trans r_44
  have r_45 := (q_53 45 (by decide)).trans r_45
  have fr : ∀ j, j < 41 → j ≠ 40 → S_53.1 j = S.1 j := fun j h1 h2 => (q_53 j (Nat.ne_of_lt (Nat.lt_of_lt_of_le h1 (by decide)))).trans (fr j h1 h2)
  have a_53 : S_53.2.1 = 47 := a_53
  have b_53 : S_53.2.2 = 47 := b_53
  refine mz_putF (ci := 9) (j := 12) d_Mo_init_55 rfl w_Mo_30 (by decide) ⟨rfl, rfl, wl_Mo_30⟩ (by rw [a_53]; decide) e_47 (Nat.le_of_ble_eq_true rfl) (⟨rfl, rfl⟩) rfl (fun S_55 a_55 e_55 f_55 => ?_)
  have r_41 := f_55.at r_41 (by decide)
  have r_42 := f_55.at r_42 (by decide)
  have r_43 := f_55.at r_43 (by decide)
  have r_44 := f_55.at r_44 (by decide)
  have r_45 := f_55.at r_45 (by decide)
  have r_46 := f_55.at r_46 (by decide)
  have fr : ∀ j, j < 41 → j ≠ 40 → S_55.1 j = S.1 j := fun j h1 h2 => (f_55.2 j (fun hj => h2 (List.mem_singleton.mp hj))).trans (fr j h1 h2)
  have b_55 : S_55.2.2 = 47 := (congrArg Prod.snd f_55.1).trans b_53
  have a_55 : S_55.2.1 = 47 := a_55.trans a_53
  refine mj_aload_n d_Mo_init_58 rfl ?_
  refine mz_bipush d_Mo_init_59 (by decide) ?_
  refine mz_newA (t := 0) (N := 16) (w := 47) d_Mo_init_61 rfl rfl ac_I (by decide) (by decide) a_55 b_55 (by decide) (by decide) (by decide) (fun S_61 a_61 b_61 r_47 q_61 => ?_)
  have e_55 := (q_61 40 (by decide)).trans e_55
  have r_41 := (q_61 41 (by decide)).trans r_41
  have r_42 := (q_61 42 (by decide)).trans r_42
  have r_43 := (q_61 43 (by decide)).trans r_43
  have r_44 := (q_61 44 (by decide)).trans r_44
  have r_45 := (q_61 45 (by decide)).trans r_45
  have r_46 := (q_61 46 (by decide)).trans r_46
  have fr : ∀ j, j < 41 → j ≠ 40 → S_61.1 j = S.1 j := fun j h1 h2 => (q_61 j (Nat.ne_of_lt (Nat.lt_of_lt_of_le h1 (by decide)))).trans (fr j h1 h2)
  have a_61 : S_61.2.1 = 48 := a_61
  have b_61 : S_61.2.2 = 48 := b_61
  refine mz_putF (ci := 9) (j := 14) d_Mo_init_63 rfl w_Mo_33 (by decide) ⟨rfl, rfl, wl_Mo_33⟩ (by rw [a_61]; decide) e_55 (Nat.le_of_ble_eq_true rfl) (⟨rfl, rfl⟩) rfl (fun S_63 a_63 e_63 f_63 => ?_)
  have r_41 := f_63.at r_41 (by decide)
  have r_42 := f_63.at r_42 (by decide)
  have r_43 := f_63.at r_43 (by decide)
  have r_44 := f_63.at r_44 (by decide)
  have r_45 := f_63.at r_45 (by decide)
  have r_46 := f_63.at r_46 (by decide)
  have r_47 := f_63.at r_47 (by decide)
  have fr : ∀ j, j < 41 → j ≠ 40 → S_63.1 j = S.1 j := fun j h1 h2 => (f_63.2 j (fun hj => h2 (List.mem_singleton.mp hj))).trans (fr j h1 h2)
  have b_63 : S_63.2.2 = 48 := (congrArg Prod.snd f_63.1).trans b_61
  have a_63 : S_63.2.1 = 48 := a_63.trans a_61
  refine mj_aload_n d_Mo_init_66 rfl ?_
  refine mz_sipush d_Mo_init_67 (by decide) ?_
  refine mz_newA (t := 0) (N := 7515) (w := 48) d_Mo_init_70 rfl rfl ac_I (by decide) (by decide) a_63 b_63 (by decide) (by decide) (by decide) (fun S_70 a_70 b_70 r_48 q_70 => ?_)
  have e_63 := (q_70 40 (by decide)).trans e_63
  have r_41 := (q_70 41 (by decide)).trans r_41
  have r_42 := (q_70 42 (by decide)).trans r_42
  have r_43 := (q_70 43 (by decide)).trans r_43
  have r_44 := (q_70 44 (by decide)).trans r_44
  have r_45 := (q_70 45 (by decide)).trans r_45
  have r_46 := (q_70 46 (by decide)).trans r_46
  have r_47 := (q_70 47 (by decide)).trans r_47
  have fr : ∀ j, j < 41 → j ≠ 40 → S_70.1 j = S.1 j := fun j h1 h2 => (q_70 j (Nat.ne_of_lt (Nat.lt_of_lt_of_le h1 (by decide)))).trans (fr j h1 h2)
  have a_70 : S_70.2.1 = 49 := a_70
  have b_70 : S_70.2.2 = 49 := b_70
  refine mz_putF (ci := 9) (j := 16) d_Mo_init_72 rfl w_Mo_36 (by decide) ⟨rfl, rfl, wl_Mo_36⟩ (by rw [a_70]; decide) e_63 (Nat.le_of_ble_eq_true rfl) (⟨rfl, rfl⟩) rfl (fun S_72 a_72 e_72 f_72 => ?_)
  have r_41 := f_72.at r_41 (by decide)
  have r_42 := f_72.at r_42 (by decide)
  have r_43 := f_72.at r_43 (by decide)
  have r_44 := f_72.at r_44 (by decide)
  have r_45 := f_72.at r_45 (by decide)
  have r_46 := f_72.at r_46 (by decide)
  have r_47 := f_72.at r_47 (by decide)
  have r_48 := f_72.at r_48 (by decide)
  have fr : ∀ j, j < 41 → j ≠ 40 → S_72.1 j = S.1 j := fun j h1 h2 => (f_72.2 j (fun hj => h2 (List.mem_singleton.mp hj))).trans (fr j h1 h2)
  have b_72 : S_72.2.2 = 49 := (congrArg Prod.snd f_72.1).trans b_70
  have a_72 : S_72.2.1 = 49 := a_72.trans a_70
  refine mj_aload_n d_Mo_init_75 rfl ?_
  refine mz_bipush d_Mo_init_76 (by decide) ?_
  refine mz_newA (t := 0) (N := 7) (w := 49) d_Mo_init_78 rfl rfl ac_I (by decide) (by decide) a_72 b_72 (by decide) (by decide) (by decide) (fun S_78 a_78 b_78 r_49 q_78 => ?_)
  have e_72 := (q_78 40 (by decide)).trans e_72
  have r_41 := (q_78 41 (by decide)).trans r_41
  have r_42 := (q_78 42 (by decide)).trans r_42
  have r_43 := (q_78 43 (by decide)).trans r_43
  have r_44 := (q_78 44 (by decide)).trans r_44
  have r_45 := (q_78 45 (by decide)).trans r_45
  have r_46 := (q_78 46 (by decide)).trans r_46
  have r_47 := (q_78 47 (by decide)).trans r_47
  have r_48 := (q_78 48 (by decide)).trans r_48
  have fr : ∀ j, j < 41 → j ≠ 40 → S_78.1 j = S.1 j := fun j h1 h2 => (q_78 j (Nat.ne_of_lt (Nat.lt_of_lt_of_le h1 (by decide)))).trans (fr j h1 h2)
  have a_78 : S_78.2.1 = 50 := a_78
  have b_78 : S_78.2.2 = 50 := b_78
  refine mz_putF (ci := 9) (j := 17) d_Mo_init_80 rfl w_Mo_39 (by decide) ⟨rfl, rfl, wl_Mo_39⟩ (by rw [a_78]; decide) e_72 (Nat.le_of_ble_eq_true rfl) (⟨rfl, rfl⟩) rfl (fun S_80 a_80 e_80 f_80 => ?_)
  have r_41 := f_80.at r_41 (by decide)
  have r_42 := f_80.at r_42 (by decide)
  have r_43 := f_80.at r_43 (by decide)
  have r_44 := f_80.at r_44 (by decide)
  have r_45 := f_80.at r_45 (by decide)
  have r_46 := f_80.at r_46 (by decide)
  have r_47 := f_80.at r_47 (by decide)
  have r_48 := f_80.at r_48 (by decide)
  have r_49 := f_80.at r_49 (by decide)
  have fr : ∀ j, j < 41 → j ≠ 40 → S_80.1 j = S.1 j := fun j h1 h2 => (f_80.2 j (fun hj => h2 (List.mem_singleton.mp hj))).trans (fr j h1 h2)
  have b_80 : S_80.2.2 = 50 := (congrArg Prod.snd f_80.1).trans b_78
  have a_80 : S_80.2.1 = 50 := a_80.trans a_78
  refine mj_aload_n d_Mo_init_83 rfl ?_
  refine mz_bipush d_Mo_init_84 (by decide) ?_
  refine mz_newA (t := 2) (N := 6) (w := 50) d_Mo_init_86 rfl rfl ac_Z (by decide) (by decide) a_80 b_80 (by decide) (by decide) (by decide) (fun S_86 a_86 b_86 r_50 q_86 => ?_)
  have e_80 := (q_86 40 (by decide)).trans e_80
  have r_41 := (q_86 41 (by decide)).trans r_41
  have r_42 := (q_86 42 (by decide)).trans r_42
  have r_43 := (q_86 43 (by decide)).trans r_43
  have r_44 := (q_86 44 (by decide)).trans r_44
  have r_45 := (q_86 45 (by decide)).trans r_45
  have r_46 := (q_86 46 (by decide)).trans r_46
  have r_47 := (q_86 47 (by decide)).trans r_47
  have r_48 := (q_86 48 (by decide)).trans r_48
  have r_49 := (q_86 49 (by decide)).trans r_49
  have fr : ∀ j, j < 41 → j ≠ 40 → S_86.1 j = S.1 j := fun j h1 h2 => (q_86 j (Nat.ne_of_lt (Nat.lt_of_lt_of_le h1 (by decide)))).trans (fr j h1 h2)
  have a_86 : S_86.2.1 = 51 := a_86
  have b_86 : S_86.2.2 = 51 := b_86
  refine mz_putF (ci := 9) (j := 18) d_Mo_init_88 rfl w_Mo_42 (by decide) ⟨rfl, rfl, wl_Mo_42⟩ (by rw [a_86]; decide) e_80 (Nat.le_of_ble_eq_true rfl) (⟨rfl, rfl⟩) rfl (fun S_88 a_88 e_88 f_88 => ?_)
  have r_41 := f_88.at r_41 (by decide)
  have r_42 := f_88.at r_42 (by decide)
  have r_43 := f_88.at r_43 (by decide)
  have r_44 := f_88.at r_44 (by decide)
  have r_45 := f_88.at r_45 (by decide)
  have r_46 := f_88.at r_46 (by decide)
  have r_47 := f_88.at r_47 (by decide)
  have r_48 := f_88.at r_48 (by decide)
  have r_49 := f_88.at r_49 (by decide)
  have r_50 := f_88.at r_50 (by decide)
  have fr : ∀ j, j < 41 → j ≠ 40 → S_88.1 j = S.1 j := fun j h1 h2 => (f_88.2 j (fun hj => h2 (List.mem_singleton.mp hj))).trans (fr j h1 h2)
  have b_88 : S_88.2.2 = 51 := (congrArg Prod.snd f_88.1).trans b_86
  have a_88 : S_88.2.1 = 51 := a_88.trans a_86
  refine mj_aload_n d_Mo_init_91 rfl ?_
  refine mz_bipush d_Mo_init_92 (by decide) ?_
  refine mz_newA (t := 0) (N := 6) (w := 51) d_Mo_init_94 rfl rfl ac_I (by decide) (by decide) a_88 b_88 (by decide) (by decide) (by decide) (fun S_94 a_94 b_94 r_51 q_94 => ?_)
  have e_88 := (q_94 40 (by decide)).trans e_88
  have r_41 := (q_94 41 (by decide)).trans r_41
  have r_42 := (q_94 42 (by decide)).trans r_42
  have r_43 := (q_94 43 (by decide)).trans r_43
  have r_44 := (q_94 44 (by decide)).trans r_44
  have r_45 := (q_94 45 (by decide)).trans r_45
  have r_46 := (q_94 46 (by decide)).trans r_46
  have r_47 := (q_94 47 (by decide)).trans r_47
  have r_48 := (q_94 48 (by decide)).trans r_48
  have r_49 := (q_94 49 (by decide)).trans r_49
  have r_50 := (q_94 50 (by decide)).trans r_50
  have fr : ∀ j, j < 41 → j ≠ 40 → S_94.1 j = S.1 j := fun j h1 h2 => (q_94 j (Nat.ne_of_lt (Nat.lt_of_lt_of_le h1 (by decide)))).trans (fr j h1 h2)
  have a_94 : S_94.2.1 = 52 := a_94
  have b_94 : S_94.2.2 = 52 := b_94
  refine mz_putF (ci := 9) (j := 20) d_Mo_init_96 rfl w_Mo_46 (by decide) ⟨rfl, rfl, wl_Mo_46⟩ (by rw [a_94]; decide) e_88 (Nat.le_of_ble_eq_true rfl) (⟨rfl, rfl⟩) rfl (fun S_96 a_96 e_96 f_96 => ?_)
  have r_41 := f_96.at r_41 (by decide)
  have r_42 := f_96.at r_42 (by decide)
  have r_43 := f_96.at r_43 (by decide)
  have r_44 := f_96.at r_44 (by decide)
  have r_45 := f_96.at r_45 (by decide)
  have r_46 := f_96.at r_46 (by decide)
  have r_47 := f_96.at r_47 (by decide)
  have r_48 := f_96.at r_48 (by decide)
  have r_49 := f_96.at r_49 (by decide)
  have r_50 := f_96.at r_50 (by decide)
  have r_51 := f_96.at r_51 (by decide)
  have fr : ∀ j, j < 41 → j ≠ 40 → S_96.1 j = S.1 j := fun j h1 h2 => (f_96.2 j (fun hj => h2 (List.mem_singleton.mp hj))).trans (fr j h1 h2)
  have b_96 : S_96.2.2 = 52 := (congrArg Prod.snd f_96.1).trans b_94
  have a_96 : S_96.2.1 = 52 := a_96.trans a_94
  refine mj_aload_n d_Mo_init_99 rfl ?_
  refine mz_bipush d_Mo_init_100 (by decide) ?_
  refine mz_newA (t := 0) (N := 36) (w := 52) d_Mo_init_102 rfl rfl ac_I (by decide) (by decide) a_96 b_96 (by decide) (by decide) (by decide) (fun S_102 a_102 b_102 r_52 q_102 => ?_)
  have e_96 := (q_102 40 (by decide)).trans e_96
  have r_41 := (q_102 41 (by decide)).trans r_41
  have r_42 := (q_102 42 (by decide)).trans r_42
  have r_43 := (q_102 43 (by decide)).trans r_43
  have r_44 := (q_102 44 (by decide)).trans r_44
  have r_45 := (q_102 45 (by decide)).trans r_45
  have r_46 := (q_102 46 (by decide)).trans r_46
  have r_47 := (q_102 47 (by decide)).trans r_47
  have r_48 := (q_102 48 (by decide)).trans r_48
  have r_49 := (q_102 49 (by decide)).trans r_49
  have r_50 := (q_102 50 (by decide)).trans r_50
  have r_51 := (q_102 51 (by decide)).trans r_51
  have fr : ∀ j, j < 41 → j ≠ 40 → S_102.1 j = S.1 j := fun j h1 h2 => (q_102 j (Nat.ne_of_lt (Nat.lt_of_lt_of_le h1 (by decide)))).trans (fr j h1 h2)
  have a_102 : S_102.2.1 = 53 := a_102
  have b_102 : S_102.2.2 = 53 := b_102
  refine mz_putF (ci := 9) (j := 21) d_Mo_init_104 rfl w_Mo_49 (by decide) ⟨rfl, rfl, wl_Mo_49⟩ (by rw [a_102]; decide) e_96 (Nat.le_of_ble_eq_true rfl) (⟨rfl, rfl⟩) rfl (fun S_104 a_104 e_104 f_104 => ?_)
  have r_41 := f_104.at r_41 (by decide)
  have r_42 := f_104.at r_42 (by decide)
  have r_43 := f_104.at r_43 (by decide)
  have r_44 := f_104.at r_44 (by decide)
  have r_45 := f_104.at r_45 (by decide)
  have r_46 := f_104.at r_46 (by decide)
  have r_47 := f_104.at r_47 (by decide)
  have r_48 := f_104.at r_48 (by decide)
  have r_49 := f_104.at r_49 (by decide)
  have r_50 := f_104.at r_50 (by decide)
  have r_51 := f_104.at r_51 (by decide)
  have r_52 := f_104.at r_52 (by decide)
  have fr : ∀ j, j < 41 → j ≠ 40 → S_104.1 j = S.1 j := fun j h1 h2 => (f_104.2 j (fun hj => h2 (List.mem_singleton.mp hj))).trans (fr j h1 h2)
  have b_104 : S_104.2.2 = 53 := (congrArg Prod.snd f_104.1).trans b_102
  have a_104 : S_104.2.1 = 53 := a_104.trans a_102
  refine mj_aload_n d_Mo_init_107 rfl ?_
  refine mz_bipush d_Mo_init_108 (by decide) ?_
  refine mz_newA (t := 0) (N := 15) (w := 53) d_Mo_init_110 rfl rfl ac_I (by decide) (by decide) a_104 b_104 (by decide) (by decide) (by decide) (fun S_110 a_110 b_110 r_53 q_110 => ?_)
  have e_104 := (q_110 40 (by decide)).trans e_104
  have r_41 := (q_110 41 (by decide)).trans r_41
  have r_42 := (q_110 42 (by decide)).trans r_42
  have r_43 := (q_110 43 (by decide)).trans r_43
  have r_44 := (q_110 44 (by decide)).trans r_44
  have r_45 := (q_110 45 (by decide)).trans r_45
  have r_46 := (q_110 46 (by decide)).trans r_46
  have r_47 := (q_110 47 (by decide)).trans r_47
  have r_48 := (q_110 48 (by decide)).trans r_48
  have r_49 := (q_110 49 (by decide)).trans r_49
  have r_50 := (q_110 50 (by decide)).trans r_50
  have r_51 := (q_110 51 (by decide)).trans r_51
  have r_52 := (q_110 52 (by decide)).trans r_52
  have fr : ∀ j, j < 41 → j ≠ 40 → S_110.1 j = S.1 j := fun j h1 h2 => (q_110 j (Nat.ne_of_lt (Nat.lt_of_lt_of_le h1 (by decide)))).trans (fr j h1 h2)
  have a_110 : S_110.2.1 = 54 := a_110
  have b_110 : S_110.2.2 = 54 := b_110
  refine mz_putF (ci := 9) (j := 22) d_Mo_init_112 rfl w_Mo_52 (by decide) ⟨rfl, rfl, wl_Mo_52⟩ (by rw [a_110]; decide) e_104 (Nat.le_of_ble_eq_true rfl) (⟨rfl, rfl⟩) rfl (fun S_112 a_112 e_112 f_112 => ?_)
  have r_41 := f_112.at r_41 (by decide)
  have r_42 := f_112.at r_42 (by decide)
  have r_43 := f_112.at r_43 (by decide)
  have r_44 := f_112.at r_44 (by decide)
  have r_45 := f_112.at r_45 (by decide)
  have r_46 := f_112.at r_46 (by decide)
  have r_47 := f_112.at r_47 (by decide)
  have r_48 := f_112.at r_48 (by decide)
  have r_49 := f_112.at r_49 (by decide)
  have r_50 := f_112.at r_50 (by decide)
  have r_51 := f_112.at r_51 (by decide)
  have r_52 := f_112.at r_52 (by decide)
  have r_53 := f_112.at r_53 (by decide)
  have fr : ∀ j, j < 41 → j ≠ 40 → S_112.1 j = S.1 j := fun j h1 h2 => (f_112.2 j (fun hj => h2 (List.mem_singleton.mp hj))).trans (fr j h1 h2)
  have b_112 : S_112.2.2 = 54 := (congrArg Prod.snd f_112.1).trans b_110
  have a_112 : S_112.2.1 = 54 := a_112.trans a_110
  refine mj_aload_n d_Mo_init_115 rfl ?_
  refine mz_bipush d_Mo_init_116 (by decide) ?_
  refine mz_newA (t := 0) (N := 10) (w := 54) d_Mo_init_118 rfl rfl ac_I (by decide) (by decide) a_112 b_112 (by decide) (by decide) (by decide) (fun S_118 a_118 b_118 r_54 q_118 => ?_)
  have e_112 := (q_118 40 (by decide)).trans e_112
  have r_41 := (q_118 41 (by decide)).trans r_41
  have r_42 := (q_118 42 (by decide)).trans r_42
  have r_43 := (q_118 43 (by decide)).trans r_43
  have r_44 := (q_118 44 (by decide)).trans r_44
  have r_45 := (q_118 45 (by decide)).trans r_45
  have r_46 := (q_118 46 (by decide)).trans r_46
  have r_47 := (q_118 47 (by decide)).trans r_47
  have r_48 := (q_118 48 (by decide)).trans r_48
  have r_49 := (q_118 49 (by decide)).trans r_49
  have r_50 := (q_118 50 (by decide)).trans r_50
  have r_51 := (q_118 51 (by decide)).trans r_51
  have r_52 := (q_118 52 (by decide)).trans r_52
  have r_53 := (q_118 53 (by decide)).trans r_53
  have fr : ∀ j, j < 41 → j ≠ 40 → S_118.1 j = S.1 j := fun j h1 h2 => (q_118 j (Nat.ne_of_lt (Nat.lt_of_lt_of_le h1 (by decide)))).trans (fr j h1 h2)
  have a_118 : S_118.2.1 = 55 := a_118
  have b_118 : S_118.2.2 = 55 := b_118
  refine mz_putF (ci := 9) (j := 23) d_Mo_init_120 rfl w_Mo_55 (by decide) ⟨rfl, rfl, wl_Mo_55⟩ (by rw [a_118]; decide) e_112 (Nat.le_of_ble_eq_true rfl) (⟨rfl, rfl⟩) rfl (fun S_120 a_120 e_120 f_120 => ?_)
  have r_41 := f_120.at r_41 (by decide)
  have r_42 := f_120.at r_42 (by decide)
  have r_43 := f_120.at r_43 (by decide)
  have r_44 := f_120.at r_44 (by decide)
  have r_45 := f_120.at r_45 (by decide)
  have r_46 := f_120.at r_46 (by decide)
  have r_47 := f_120.at r_47 (by decide)
  have r_48 := f_120.at r_48 (by decide)
  have r_49 := f_120.at r_49 (by decide)
  have r_50 := f_120.at r_50 (by decide)
  have r_51 := f_120.at r_51 (by decide)
  have r_52 := f_120.at r_52 (by decide)
  have r_53 := f_120.at r_53 (by decide)
  have r_54 := f_120.at r_54 (by decide)
  have fr : ∀ j, j < 41 → j ≠ 40 → S_120.1 j = S.1 j := fun j h1 h2 => (f_120.2 j (fun hj => h2 (List.mem_singleton.mp hj))).trans (fr j h1 h2)
  have b_120 : S_120.2.2 = 55 := (congrArg Prod.snd f_120.1).trans b_118
  have a_120 : S_120.2.1 = 55 := a_120.trans a_118
  refine mj_aload_n d_Mo_init_123 rfl ?_
  refine mz_bipush d_Mo_init_124 (by decide) ?_
  refine mz_newA (t := 0) (N := 60) (w := 55) d_Mo_init_126 rfl rfl ac_I (by decide) (by decide) a_120 b_120 (by decide) (by decide) (by decide) (fun S_126 a_126 b_126 r_55 q_126 => ?_)
  have e_120 := (q_126 40 (by decide)).trans e_120
  have r_41 := (q_126 41 (by decide)).trans r_41
  have r_42 := (q_126 42 (by decide)).trans r_42
  have r_43 := (q_126 43 (by decide)).trans r_43
  have r_44 := (q_126 44 (by decide)).trans r_44
  have r_45 := (q_126 45 (by decide)).trans r_45
  have r_46 := (q_126 46 (by decide)).trans r_46
  have r_47 := (q_126 47 (by decide)).trans r_47
  have r_48 := (q_126 48 (by decide)).trans r_48
  have r_49 := (q_126 49 (by decide)).trans r_49
  have r_50 := (q_126 50 (by decide)).trans r_50
  have r_51 := (q_126 51 (by decide)).trans r_51
  have r_52 := (q_126 52 (by decide)).trans r_52
  have r_53 := (q_126 53 (by decide)).trans r_53
  have r_54 := (q_126 54 (by decide)).trans r_54
  have fr : ∀ j, j < 41 → j ≠ 40 → S_126.1 j = S.1 j := fun j h1 h2 => (q_126 j (Nat.ne_of_lt (Nat.lt_of_lt_of_le h1 (by decide)))).trans (fr j h1 h2)
  have a_126 : S_126.2.1 = 56 := a_126
  have b_126 : S_126.2.2 = 56 := b_126
  refine mz_putF (ci := 9) (j := 24) d_Mo_init_128 rfl w_Mo_58 (by decide) ⟨rfl, rfl, wl_Mo_58⟩ (by rw [a_126]; decide) e_120 (Nat.le_of_ble_eq_true rfl) (⟨rfl, rfl⟩) rfl (fun S_128 a_128 e_128 f_128 => ?_)
  have r_41 := f_128.at r_41 (by decide)
  have r_42 := f_128.at r_42 (by decide)
  have r_43 := f_128.at r_43 (by decide)
  have r_44 := f_128.at r_44 (by decide)
  have r_45 := f_128.at r_45 (by decide)
  have r_46 := f_128.at r_46 (by decide)
  have r_47 := f_128.at r_47 (by decide)
  have r_48 := f_128.at r_48 (by decide)
  have r_49 := f_128.at r_49 (by decide)
  have r_50 := f_128.at r_50 (by decide)
  have r_51 := f_128.at r_51 (by decide)
  have r_52 := f_128.at r_52 (by decide)
  have r_53 := f_128.at r_53 (by decide)
  have r_54 := f_128.at r_54 (by decide)
  have r_55 := f_128.at r_55 (by decide)
  have fr : ∀ j, j < 41 → j ≠ 40 → S_128.1 j = S.1 j := fun j h1 h2 => (f_128.2 j (fun hj => h2 (List.mem_singleton.mp hj))).trans (fr j h1 h2)
  have b_128 : S_128.2.2 = 56 := (congrArg Prod.snd f_128.1).trans b_126
  have a_128 : S_128.2.1 = 56 := a_128.trans a_126
  refine mj_aload_n d_Mo_init_131 rfl ?_
  refine mz_bipush d_Mo_init_132 (by decide) ?_
  refine mz_newA (t := 0) (N := 10) (w := 56) d_Mo_init_134 rfl rfl ac_I (by decide) (by decide) a_128 b_128 (by decide) (by decide) (by decide) (fun S_134 a_134 b_134 r_56 q_134 => ?_)
  have e_128 := (q_134 40 (by decide)).trans e_128
  have r_41 := (q_134 41 (by decide)).trans r_41
  have r_42 := (q_134 42 (by decide)).trans r_42
  have r_43 := (q_134 43 (by decide)).trans r_43
  have r_44 := (q_134 44 (by decide)).trans r_44
  have r_45 := (q_134 45 (by decide)).trans r_45
  have r_46 := (q_134 46 (by decide)).trans r_46
  have r_47 := (q_134 47 (by decide)).trans r_47
  have r_48 := (q_134 48 (by decide)).trans r_48
  have r_49 := (q_134 49 (by decide)).trans r_49
  have r_50 := (q_134 50 (by decide)).trans r_50
  have r_51 := (q_134 51 (by decide)).trans r_51
  have r_52 := (q_134 52 (by decide)).trans r_52
  have r_53 := (q_134 53 (by decide)).trans r_53
  have r_54 := (q_134 54 (by decide)).trans r_54
  have r_55 := (q_134 55 (by decide)).trans r_55
  have fr : ∀ j, j < 41 → j ≠ 40 → S_134.1 j = S.1 j := fun j h1 h2 => (q_134 j (Nat.ne_of_lt (Nat.lt_of_lt_of_le h1 (by decide)))).trans (fr j h1 h2)
  have a_134 : S_134.2.1 = 57 := a_134
  have b_134 : S_134.2.2 = 57 := b_134
  refine mz_putF (ci := 9) (j := 25) d_Mo_init_136 rfl w_Mo_61 (by decide) ⟨rfl, rfl, wl_Mo_61⟩ (by rw [a_134]; decide) e_128 (Nat.le_of_ble_eq_true rfl) (⟨rfl, rfl⟩) rfl (fun S_136 a_136 e_136 f_136 => ?_)
  have r_41 := f_136.at r_41 (by decide)
  have r_42 := f_136.at r_42 (by decide)
  have r_43 := f_136.at r_43 (by decide)
  have r_44 := f_136.at r_44 (by decide)
  have r_45 := f_136.at r_45 (by decide)
  have r_46 := f_136.at r_46 (by decide)
  have r_47 := f_136.at r_47 (by decide)
  have r_48 := f_136.at r_48 (by decide)
  have r_49 := f_136.at r_49 (by decide)
  have r_50 := f_136.at r_50 (by decide)
  have r_51 := f_136.at r_51 (by decide)
  have r_52 := f_136.at r_52 (by decide)
  have r_53 := f_136.at r_53 (by decide)
  have r_54 := f_136.at r_54 (by decide)
  have r_55 := f_136.at r_55 (by decide)
  have r_56 := f_136.at r_56 (by decide)
  have fr : ∀ j, j < 41 → j ≠ 40 → S_136.1 j = S.1 j := fun j h1 h2 => (f_136.2 j (fun hj => h2 (List.mem_singleton.mp hj))).trans (fr j h1 h2)
  have b_136 : S_136.2.2 = 57 := (congrArg Prod.snd f_136.1).trans b_134
  have a_136 : S_136.2.1 = 57 := a_136.trans a_134
  refine mj_aload_n d_Mo_init_139 rfl ?_
  refine mz_bipush d_Mo_init_140 (by decide) ?_
  refine mz_newA (t := 0) (N := 10) (w := 57) d_Mo_init_142 rfl rfl ac_I (by decide) (by decide) a_136 b_136 (by decide) (by decide) (by decide) (fun S_142 a_142 b_142 r_57 q_142 => ?_)
  have e_136 := (q_142 40 (by decide)).trans e_136
  have r_41 := (q_142 41 (by decide)).trans r_41
  have r_42 := (q_142 42 (by decide)).trans r_42
  have r_43 := (q_142 43 (by decide)).trans r_43
  have r_44 := (q_142 44 (by decide)).trans r_44
  have r_45 := (q_142 45 (by decide)).trans r_45
  have r_46 := (q_142 46 (by decide)).trans r_46
  have r_47 := (q_142 47 (by decide)).trans r_47
  have r_48 := (q_142 48 (by decide)).trans r_48
  have r_49 := (q_142 49 (by decide)).trans r_49
  have r_50 := (q_142 50 (by decide)).trans r_50
  have r_51 := (q_142 51 (by decide)).trans r_51
  have r_52 := (q_142 52 (by decide)).trans r_52
  have r_53 := (q_142 53 (by decide)).trans r_53
  have r_54 := (q_142 54 (by decide)).trans r_54
  have r_55 := (q_142 55 (by decide)).trans r_55
  have r_56 := (q_142 56 (by decide)).trans r_56
  have fr : ∀ j, j < 41 → j ≠ 40 → S_142.1 j = S.1 j := fun j h1 h2 => (q_142 j (Nat.ne_of_lt (Nat.lt_of_lt_of_le h1 (by decide)))).trans (fr j h1 h2)
  have a_142 : S_142.2.1 = 58 := a_142
  have b_142 : S_142.2.2 = 58 := b_142
  refine mz_putF (ci := 9) (j := 26) d_Mo_init_144 rfl w_Mo_64 (by decide) ⟨rfl, rfl, wl_Mo_64⟩ (by rw [a_142]; decide) e_136 (Nat.le_of_ble_eq_true rfl) (⟨rfl, rfl⟩) rfl (fun S_144 a_144 e_144 f_144 => ?_)
  have r_41 := f_144.at r_41 (by decide)
  have r_42 := f_144.at r_42 (by decide)
  have r_43 := f_144.at r_43 (by decide)
  have r_44 := f_144.at r_44 (by decide)
  have r_45 := f_144.at r_45 (by decide)
  have r_46 := f_144.at r_46 (by decide)
  have r_47 := f_144.at r_47 (by decide)
  have r_48 := f_144.at r_48 (by decide)
  have r_49 := f_144.at r_49 (by decide)
  have r_50 := f_144.at r_50 (by decide)
  have r_51 := f_144.at r_51 (by decide)
  have r_52 := f_144.at r_52 (by decide)
  have r_53 := f_144.at r_53 (by decide)
  have r_54 := f_144.at r_54 (by decide)
  have r_55 := f_144.at r_55 (by decide)
  have r_56 := f_144.at r_56 (by decide)
  have r_57 := f_144.at r_57 (by decide)
  have fr : ∀ j, j < 41 → j ≠ 40 → S_144.1 j = S.1 j := fun j h1 h2 => (f_144.2 j (fun hj => h2 (List.mem_singleton.mp hj))).trans (fr j h1 h2)
  have b_144 : S_144.2.2 = 58 := (congrArg Prod.snd f_144.1).trans b_142
  have a_144 : S_144.2.1 = 58 := a_144.trans a_142
  refine mj_aload_n d_Mo_init_147 rfl ?_
  refine mz_bipush d_Mo_init_148 (by decide) ?_
  refine mz_newA (t := 0) (N := 6) (w := 58) d_Mo_init_150 rfl rfl ac_I (by decide) (by decide) a_144 b_144 (by decide) (by decide) (by decide) (fun S_150 a_150 b_150 r_58 q_150 => ?_)
  have e_144 := (q_150 40 (by decide)).trans e_144
  have r_41 := (q_150 41 (by decide)).trans r_41
  have r_42 := (q_150 42 (by decide)).trans r_42
  have r_43 := (q_150 43 (by decide)).trans r_43
  have r_44 := (q_150 44 (by decide)).trans r_44
  have r_45 := (q_150 45 (by decide)).trans r_45
  have r_46 := (q_150 46 (by decide)).trans r_46
  have r_47 := (q_150 47 (by decide)).trans r_47
  have r_48 := (q_150 48 (by decide)).trans r_48
  have r_49 := (q_150 49 (by decide)).trans r_49
  have r_50 := (q_150 50 (by decide)).trans r_50
  have r_51 := (q_150 51 (by decide)).trans r_51
  have r_52 := (q_150 52 (by decide)).trans r_52
  have r_53 := (q_150 53 (by decide)).trans r_53
  have r_54 := (q_150 54 (by decide)).trans r_54
  have r_55 := (q_150 55 (by decide)).trans r_55
  have r_56 := (q_150 56 (by decide)).trans r_56
  have r_57 := (q_150 57 (by decide)).trans r_57
  have fr : ∀ j, j < 41 → j ≠ 40 → S_150.1 j = S.1 j := fun j h1 h2 => (q_150 j (Nat.ne_of_lt (Nat.lt_of_lt_of_le h1 (by decide)))).trans (fr j h1 h2)
  have a_150 : S_150.2.1 = 59 := a_150
  have b_150 : S_150.2.2 = 59 := b_150
  refine mz_putF (ci := 9) (j := 27) d_Mo_init_152 rfl w_Mo_67 (by decide) ⟨rfl, rfl, wl_Mo_67⟩ (by rw [a_150]; decide) e_144 (Nat.le_of_ble_eq_true rfl) (⟨rfl, rfl⟩) rfl (fun S_152 a_152 e_152 f_152 => ?_)
  have r_41 := f_152.at r_41 (by decide)
  have r_42 := f_152.at r_42 (by decide)
  have r_43 := f_152.at r_43 (by decide)
  have r_44 := f_152.at r_44 (by decide)
  have r_45 := f_152.at r_45 (by decide)
  have r_46 := f_152.at r_46 (by decide)
  have r_47 := f_152.at r_47 (by decide)
  have r_48 := f_152.at r_48 (by decide)
  have r_49 := f_152.at r_49 (by decide)
  have r_50 := f_152.at r_50 (by decide)
  have r_51 := f_152.at r_51 (by decide)
  have r_52 := f_152.at r_52 (by decide)
  have r_53 := f_152.at r_53 (by decide)
  have r_54 := f_152.at r_54 (by decide)
  have r_55 := f_152.at r_55 (by decide)
  have r_56 := f_152.at r_56 (by decide)
  have r_57 := f_152.at r_57 (by decide)
  have r_58 := f_152.at r_58 (by decide)
  have fr : ∀ j, j < 41 → j ≠ 40 → S_152.1 j = S.1 j := fun j h1 h2 => (f_152.2 j (fun hj => h2 (List.mem_singleton.mp hj))).trans (fr j h1 h2)
  have b_152 : S_152.2.2 = 59 := (congrArg Prod.snd f_152.1).trans b_150
  have a_152 : S_152.2.1 = 59 := a_152.trans a_150
  refine mj_aload_n d_Mo_init_155 rfl ?_
  refine mz_bipush d_Mo_init_156 (by decide) ?_
  refine mz_newA (t := 0) (N := 36) (w := 59) d_Mo_init_158 rfl rfl ac_I (by decide) (by decide) a_152 b_152 (by decide) (by decide) (by decide) (fun S_158 a_158 b_158 r_59 q_158 => ?_)
  have e_152 := (q_158 40 (by decide)).trans e_152
  have r_41 := (q_158 41 (by decide)).trans r_41
  have r_42 := (q_158 42 (by decide)).trans r_42
  have r_43 := (q_158 43 (by decide)).trans r_43
  have r_44 := (q_158 44 (by decide)).trans r_44
  have r_45 := (q_158 45 (by decide)).trans r_45
  have r_46 := (q_158 46 (by decide)).trans r_46
  have r_47 := (q_158 47 (by decide)).trans r_47
  have r_48 := (q_158 48 (by decide)).trans r_48
  have r_49 := (q_158 49 (by decide)).trans r_49
  have r_50 := (q_158 50 (by decide)).trans r_50
  have r_51 := (q_158 51 (by decide)).trans r_51
  have r_52 := (q_158 52 (by decide)).trans r_52
  have r_53 := (q_158 53 (by decide)).trans r_53
  have r_54 := (q_158 54 (by decide)).trans r_54
  have r_55 := (q_158 55 (by decide)).trans r_55
  have r_56 := (q_158 56 (by decide)).trans r_56
  have r_57 := (q_158 57 (by decide)).trans r_57
  have r_58 := (q_158 58 (by decide)).trans r_58
  have fr : ∀ j, j < 41 → j ≠ 40 → S_158.1 j = S.1 j := fun j h1 h2 => (q_158 j (Nat.ne_of_lt (Nat.lt_of_lt_of_le h1 (by decide)))).trans (fr j h1 h2)
  have a_158 : S_158.2.1 = 60 := a_158
  have b_158 : S_158.2.2 = 60 := b_158
  refine mz_putF (ci := 9) (j := 28) d_Mo_init_160 rfl w_Mo_70 (by decide) ⟨rfl, rfl, wl_Mo_70⟩ (by rw [a_158]; decide) e_152 (Nat.le_of_ble_eq_true rfl) (⟨rfl, rfl⟩) rfl (fun S_160 a_160 e_160 f_160 => ?_)
  have r_41 := f_160.at r_41 (by decide)
  have r_42 := f_160.at r_42 (by decide)
  have r_43 := f_160.at r_43 (by decide)
  have r_44 := f_160.at r_44 (by decide)
  have r_45 := f_160.at r_45 (by decide)
  have r_46 := f_160.at r_46 (by decide)
  have r_47 := f_160.at r_47 (by decide)
  have r_48 := f_160.at r_48 (by decide)
  have r_49 := f_160.at r_49 (by decide)
  have r_50 := f_160.at r_50 (by decide)
  have r_51 := f_160.at r_51 (by decide)
  have r_52 := f_160.at r_52 (by decide)
  have r_53 := f_160.at r_53 (by decide)
  have r_54 := f_160.at r_54 (by decide)
  have r_55 := f_160.at r_55 (by decide)
  have r_56 := f_160.at r_56 (by decide)
  have r_57 := f_160.at r_57 (by decide)
  have r_58 := f_160.at r_58 (by decide)
  have r_59 := f_160.at r_59 (by decide)
  have fr : ∀ j, j < 41 → j ≠ 40 → S_160.1 j = S.1 j := fun j h1 h2 => (f_160.2 j (fun hj => h2 (List.mem_singleton.mp hj))).trans (fr j h1 h2)
  have b_160 : S_160.2.2 = 60 := (congrArg Prod.snd f_160.1).trans b_158
  have a_160 : S_160.2.1 = 60 := a_160.trans a_158
  refine mj_aload_n d_Mo_init_163 rfl ?_
  refine mz_bipush d_Mo_init_164 (by decide) ?_
  refine mz_newA (t := 0) (N := 6) (w := 60) d_Mo_init_166 rfl rfl ac_I (by decide) (by decide) a_160 b_160 (by decide) (by decide) (by decide) (fun S_166 a_166 b_166 r_60 q_166 => ?_)
  have e_160 := (q_166 40 (by decide)).trans e_160
  have r_41 := (q_166 41 (by decide)).trans r_41
  have r_42 := (q_166 42 (by decide)).trans r_42
  have r_43 := (q_166 43 (by decide)).trans r_43
  have r_44 := (q_166 44 (by decide)).trans r_44
  have r_45 := (q_166 45 (by decide)).trans r_45
  have r_46 := (q_166 46 (by decide)).trans r_46
  have r_47 := (q_166 47 (by decide)).trans r_47
  have r_48 := (q_166 48 (by decide)).trans r_48
  have r_49 := (q_166 49 (by decide)).trans r_49
  have r_50 := (q_166 50 (by decide)).trans r_50
  have r_51 := (q_166 51 (by decide)).trans r_51
  have r_52 := (q_166 52 (by decide)).trans r_52
  have r_53 := (q_166 53 (by decide)).trans r_53
  have r_54 := (q_166 54 (by decide)).trans r_54
  have r_55 := (q_166 55 (by decide)).trans r_55
  have r_56 := (q_166 56 (by decide)).trans r_56
  have r_57 := (q_166 57 (by decide)).trans r_57
  have r_58 := (q_166 58 (by decide)).trans r_58
  have r_59 := (q_166 59 (by decide)).trans r_59
  have fr : ∀ j, j < 41 → j ≠ 40 → S_166.1 j = S.1 j := fun j h1 h2 => (q_166 j (Nat.ne_of_lt (Nat.lt_of_lt_of_le h1 (by decide)))).trans (fr j h1 h2)
  have a_166 : S_166.2.1 = 61 := a_166
  have b_166 : S_166.2.2 = 61 := b_166
  refine mz_putF (ci := 9) (j := 29) d_Mo_init_168 rfl w_Mo_73 (by decide) ⟨rfl, rfl, wl_Mo_73⟩ (by rw [a_166]; decide) e_160 (Nat.le_of_ble_eq_true rfl) (⟨rfl, rfl⟩) rfl (fun S_168 a_168 e_168 f_168 => ?_)
  have r_41 := f_168.at r_41 (by decide)
  have r_42 := f_168.at r_42 (by decide)
  have r_43 := f_168.at r_43 (by decide)
  have r_44 := f_168.at r_44 (by decide)
  have r_45 := f_168.at r_45 (by decide)
  have r_46 := f_168.at r_46 (by decide)
  have r_47 := f_168.at r_47 (by decide)
  have r_48 := f_168.at r_48 (by decide)
  have r_49 := f_168.at r_49 (by decide)
  have r_50 := f_168.at r_50 (by decide)
  have r_51 := f_168.at r_51 (by decide)
  have r_52 := f_168.at r_52 (by decide)
  have r_53 := f_168.at r_53 (by decide)
  have r_54 := f_168.at r_54 (by decide)
  have r_55 := f_168.at r_55 (by decide)
  have r_56 := f_168.at r_56 (by decide)
  have r_57 := f_168.at r_57 (by decide)
  have r_58 := f_168.at r_58 (by decide)
  have r_59 := f_168.at r_59 (by decide)
  have r_60 := f_168.at r_60 (by decide)
  have fr : ∀ j, j < 41 → j ≠ 40 → S_168.1 j = S.1 j := fun j h1 h2 => (f_168.2 j (fun hj => h2 (List.mem_singleton.mp hj))).trans (fr j h1 h2)
  have b_168 : S_168.2.2 = 61 := (congrArg Prod.snd f_168.1).trans b_166
  have a_168 : S_168.2.1 = 61 := a_168.trans a_166
  refine mj_aload_n d_Mo_init_171 rfl ?_
  refine mz_bipush d_Mo_init_172 (by decide) ?_
  refine mz_newA (t := 2) (N := 6) (w := 61) d_Mo_init_174 rfl rfl ac_Z (by decide) (by decide) a_168 b_168 (by decide) (by decide) (by decide) (fun S_174 a_174 b_174 r_61 q_174 => ?_)
  have e_168 := (q_174 40 (by decide)).trans e_168
  have r_41 := (q_174 41 (by decide)).trans r_41
  have r_42 := (q_174 42 (by decide)).trans r_42
  have r_43 := (q_174 43 (by decide)).trans r_43
  have r_44 := (q_174 44 (by decide)).trans r_44
  have r_45 := (q_174 45 (by decide)).trans r_45
  have r_46 := (q_174 46 (by decide)).trans r_46
  have r_47 := (q_174 47 (by decide)).trans r_47
  have r_48 := (q_174 48 (by decide)).trans r_48
  have r_49 := (q_174 49 (by decide)).trans r_49
  have r_50 := (q_174 50 (by decide)).trans r_50
  have r_51 := (q_174 51 (by decide)).trans r_51
  have r_52 := (q_174 52 (by decide)).trans r_52
  have r_53 := (q_174 53 (by decide)).trans r_53
  have r_54 := (q_174 54 (by decide)).trans r_54
  have r_55 := (q_174 55 (by decide)).trans r_55
  have r_56 := (q_174 56 (by decide)).trans r_56
  have r_57 := (q_174 57 (by decide)).trans r_57
  have r_58 := (q_174 58 (by decide)).trans r_58
  have r_59 := (q_174 59 (by decide)).trans r_59
  have r_60 := (q_174 60 (by decide)).trans r_60
  have fr : ∀ j, j < 41 → j ≠ 40 → S_174.1 j = S.1 j := fun j h1 h2 => (q_174 j (Nat.ne_of_lt (Nat.lt_of_lt_of_le h1 (by decide)))).trans (fr j h1 h2)
  have a_174 : S_174.2.1 = 62 := a_174
  have b_174 : S_174.2.2 = 62 := b_174
  refine mz_putF (ci := 9) (j := 30) d_Mo_init_176 rfl w_Mo_76 (by decide) ⟨rfl, rfl, wl_Mo_76⟩ (by rw [a_174]; decide) e_168 (Nat.le_of_ble_eq_true rfl) (⟨rfl, rfl⟩) rfl (fun S_176 a_176 e_176 f_176 => ?_)
  have r_41 := f_176.at r_41 (by decide)
  have r_42 := f_176.at r_42 (by decide)
  have r_43 := f_176.at r_43 (by decide)
  have r_44 := f_176.at r_44 (by decide)
  have r_45 := f_176.at r_45 (by decide)
  have r_46 := f_176.at r_46 (by decide)
  have r_47 := f_176.at r_47 (by decide)
  have r_48 := f_176.at r_48 (by decide)
  have r_49 := f_176.at r_49 (by decide)
  have r_50 := f_176.at r_50 (by decide)
  have r_51 := f_176.at r_51 (by decide)
  have r_52 := f_176.at r_52 (by decide)
  have r_53 := f_176.at r_53 (by decide)
  have r_54 := f_176.at r_54 (by decide)
  have r_55 := f_176.at r_55 (by decide)
  have r_56 := f_176.at r_56 (by decide)
  have r_57 := f_176.at r_57 (by decide)
  have r_58 := f_176.at r_58 (by decide)
  have r_59 := f_176.at r_59 (by decide)
  have r_60 := f_176.at r_60 (by decide)
  have r_61 := f_176.at r_61 (by decide)
  have fr : ∀ j, j < 41 → j ≠ 40 → S_176.1 j = S.1 j := fun j h1 h2 => (f_176.2 j (fun hj => h2 (List.mem_singleton.mp hj))).trans (fr j h1 h2)
  have b_176 : S_176.2.2 = 62 := (congrArg Prod.snd f_176.1).trans b_174
  have a_176 : S_176.2.1 = 62 := a_176.trans a_174
  refine mj_aload_n d_Mo_init_179 rfl ?_
  refine mz_bipush d_Mo_init_180 (by decide) ?_
  refine mz_newA (t := 2) (N := 6) (w := 62) d_Mo_init_182 rfl rfl ac_Z (by decide) (by decide) a_176 b_176 (by decide) (by decide) (by decide) (fun S_182 a_182 b_182 r_62 q_182 => ?_)
  have e_176 := (q_182 40 (by decide)).trans e_176
  have r_41 := (q_182 41 (by decide)).trans r_41
  have r_42 := (q_182 42 (by decide)).trans r_42
  have r_43 := (q_182 43 (by decide)).trans r_43
  have r_44 := (q_182 44 (by decide)).trans r_44
  have r_45 := (q_182 45 (by decide)).trans r_45
  have r_46 := (q_182 46 (by decide)).trans r_46
  have r_47 := (q_182 47 (by decide)).trans r_47
  have r_48 := (q_182 48 (by decide)).trans r_48
  have r_49 := (q_182 49 (by decide)).trans r_49
  have r_50 := (q_182 50 (by decide)).trans r_50
  have r_51 := (q_182 51 (by decide)).trans r_51
  have r_52 := (q_182 52 (by decide)).trans r_52
  have r_53 := (q_182 53 (by decide)).trans r_53
  have r_54 := (q_182 54 (by decide)).trans r_54
  have r_55 := (q_182 55 (by decide)).trans r_55
  have r_56 := (q_182 56 (by decide)).trans r_56
  have r_57 := (q_182 57 (by decide)).trans r_57
  have r_58 := (q_182 58 (by decide)).trans r_58
  have r_59 := (q_182 59 (by decide)).trans r_59
  have r_60 := (q_182 60 (by decide)).trans r_60
  have r_61 := (q_182 61 (by decide)).trans r_61
  have fr : ∀ j, j < 41 → j ≠ 40 → S_182.1 j = S.1 j := fun j h1 h2 => (q_182 j (Nat.ne_of_lt (Nat.lt_of_lt_of_le h1 (by decide)))).trans (fr j h1 h2)
  have a_182 : S_182.2.1 = 63 := a_182
  have b_182 : S_182.2.2 = 63 := b_182
  refine mz_putF (ci := 9) (j := 31) d_Mo_init_184 rfl w_Mo_79 (by decide) ⟨rfl, rfl, wl_Mo_79⟩ (by rw [a_182]; decide) e_176 (Nat.le_of_ble_eq_true rfl) (⟨rfl, rfl⟩) rfl (fun S_184 a_184 e_184 f_184 => ?_)
  have r_41 := f_184.at r_41 (by decide)
  have r_42 := f_184.at r_42 (by decide)
  have r_43 := f_184.at r_43 (by decide)
  have r_44 := f_184.at r_44 (by decide)
  have r_45 := f_184.at r_45 (by decide)
  have r_46 := f_184.at r_46 (by decide)
  have r_47 := f_184.at r_47 (by decide)
  have r_48 := f_184.at r_48 (by decide)
  have r_49 := f_184.at r_49 (by decide)
  have r_50 := f_184.at r_50 (by decide)
  have r_51 := f_184.at r_51 (by decide)
  have r_52 := f_184.at r_52 (by decide)
  have r_53 := f_184.at r_53 (by decide)
  have r_54 := f_184.at r_54 (by decide)
  have r_55 := f_184.at r_55 (by decide)
  have r_56 := f_184.at r_56 (by decide)
  have r_57 := f_184.at r_57 (by decide)
  have r_58 := f_184.at r_58 (by decide)
  have r_59 := f_184.at r_59 (by decide)
  have r_60 := f_184.at r_60 (by decide)
  have r_61 := f_184.at r_61 (by decide)
  have r_62 := f_184.at r_62 (by decide)
  have fr : ∀ j, j < 41 → j ≠ 40 → S_184.1 j = S.1 j := fun j h1 h2 => (f_184.2 j (fun hj => h2 (List.mem_singleton.mp hj))).trans (fr j h1 h2)
  have b_184 : S_184.2.2 = 63 := (congrArg Prod.snd f_184.1).trans b_182
  have a_184 : S_184.2.1 = 63 := a_184.trans a_182
  refine mj_aload_n d_Mo_init_187 rfl ?_
  refine mz_bipush d_Mo_init_188 (by decide) ?_
  refine mz_newA (t := 0) (N := 6) (w := 63) d_Mo_init_190 rfl rfl ac_I (by decide) (by decide) a_184 b_184 (by decide) (by decide) (by decide) (fun S_190 a_190 b_190 r_63 q_190 => ?_)
  have e_184 := (q_190 40 (by decide)).trans e_184
  have r_41 := (q_190 41 (by decide)).trans r_41
  have r_42 := (q_190 42 (by decide)).trans r_42
  have r_43 := (q_190 43 (by decide)).trans r_43
  have r_44 := (q_190 44 (by decide)).trans r_44
  have r_45 := (q_190 45 (by decide)).trans r_45
  have r_46 := (q_190 46 (by decide)).trans r_46
  have r_47 := (q_190 47 (by decide)).trans r_47
  have r_48 := (q_190 48 (by decide)).trans r_48
  have r_49 := (q_190 49 (by decide)).trans r_49
  have r_50 := (q_190 50 (by decide)).trans r_50
  have r_51 := (q_190 51 (by decide)).trans r_51
  have r_52 := (q_190 52 (by decide)).trans r_52
  have r_53 := (q_190 53 (by decide)).trans r_53
  have r_54 := (q_190 54 (by decide)).trans r_54
  have r_55 := (q_190 55 (by decide)).trans r_55
  have r_56 := (q_190 56 (by decide)).trans r_56
  have r_57 := (q_190 57 (by decide)).trans r_57
  have r_58 := (q_190 58 (by decide)).trans r_58
  have r_59 := (q_190 59 (by decide)).trans r_59
  have r_60 := (q_190 60 (by decide)).trans r_60
  have r_61 := (q_190 61 (by decide)).trans r_61
  have r_62 := (q_190 62 (by decide)).trans r_62
  have fr : ∀ j, j < 41 → j ≠ 40 → S_190.1 j = S.1 j := fun j h1 h2 => (q_190 j (Nat.ne_of_lt (Nat.lt_of_lt_of_le h1 (by decide)))).trans (fr j h1 h2)
  have a_190 : S_190.2.1 = 64 := a_190
  have b_190 : S_190.2.2 = 64 := b_190
  refine mz_putF (ci := 9) (j := 32) d_Mo_init_192 rfl w_Mo_82 (by decide) ⟨rfl, rfl, wl_Mo_82⟩ (by rw [a_190]; decide) e_184 (Nat.le_of_ble_eq_true rfl) (⟨rfl, rfl⟩) rfl (fun S_192 a_192 e_192 f_192 => ?_)
  have r_41 := f_192.at r_41 (by decide)
  have r_42 := f_192.at r_42 (by decide)
  have r_43 := f_192.at r_43 (by decide)
  have r_44 := f_192.at r_44 (by decide)
  have r_45 := f_192.at r_45 (by decide)
  have r_46 := f_192.at r_46 (by decide)
  have r_47 := f_192.at r_47 (by decide)
  have r_48 := f_192.at r_48 (by decide)
  have r_49 := f_192.at r_49 (by decide)
  have r_50 := f_192.at r_50 (by decide)
  have r_51 := f_192.at r_51 (by decide)
  have r_52 := f_192.at r_52 (by decide)
  have r_53 := f_192.at r_53 (by decide)
  have r_54 := f_192.at r_54 (by decide)
  have r_55 := f_192.at r_55 (by decide)
  have r_56 := f_192.at r_56 (by decide)
  have r_57 := f_192.at r_57 (by decide)
  have r_58 := f_192.at r_58 (by decide)
  have r_59 := f_192.at r_59 (by decide)
  have r_60 := f_192.at r_60 (by decide)
  have r_61 := f_192.at r_61 (by decide)
  have r_62 := f_192.at r_62 (by decide)
  have r_63 := f_192.at r_63 (by decide)
  have fr : ∀ j, j < 41 → j ≠ 40 → S_192.1 j = S.1 j := fun j h1 h2 => (f_192.2 j (fun hj => h2 (List.mem_singleton.mp hj))).trans (fr j h1 h2)
  have b_192 : S_192.2.2 = 64 := (congrArg Prod.snd f_192.1).trans b_190
  have a_192 : S_192.2.1 = 64 := a_192.trans a_190
  refine mz_vret d_Mo_init_195 rfl ?_
  exact ⟨⟨a_192, b_192, fr⟩, e_192, r_41, r_42, r_43, r_44, r_45, r_46, r_47, r_48, r_49, r_50, r_51, r_52, r_53, r_54, r_55, r_56, r_57, r_58, r_59, r_60, r_61, r_62, r_63⟩
end MK
