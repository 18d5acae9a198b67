/-! mj, part 04: one row an instruction: stack, locals, branches. -/
section MJ4
variable {Γ : mj_G} {d : Nat} {M : mj_M} {k n pc : Nat} {lv st : List Value} {S : mj_S} {P : mj_O → mj_S → Prop}
theorem mj_iadd {x y : Int32} (hd : decode M.cc pc = .ok (.iadd, 1))  (h : mj_Ok Γ d M k n (pc + 1) lv (.int (x + y) :: st) S P) : mj_Ok Γ d M k n pc lv (.int y :: .int x :: st) S P := by
  intro p e R s m args below meth c H locs cells slots ls hX hS hW hL hN
  exact lv_iadd hX.1 hX.2.1 hd  (h p e R s m args below meth c H locs cells slots ls hX hS hW hL hN)
theorem mj_isub {x y : Int32} (hd : decode M.cc pc = .ok (.isub, 1))  (h : mj_Ok Γ d M k n (pc + 1) lv (.int (x - y) :: st) S P) : mj_Ok Γ d M k n pc lv (.int y :: .int x :: st) S P := by
  intro p e R s m args below meth c H locs cells slots ls hX hS hW hL hN
  exact lv_isub hX.1 hX.2.1 hd  (h p e R s m args below meth c H locs cells slots ls hX hS hW hL hN)
theorem mj_imul {x y : Int32} (hd : decode M.cc pc = .ok (.imul, 1))  (h : mj_Ok Γ d M k n (pc + 1) lv (.int (x * y) :: st) S P) : mj_Ok Γ d M k n pc lv (.int y :: .int x :: st) S P := by
  intro p e R s m args below meth c H locs cells slots ls hX hS hW hL hN
  exact lv_imul hX.1 hX.2.1 hd  (h p e R s m args below meth c H locs cells slots ls hX hS hW hL hN)
theorem mj_iand {x y : Int32} (hd : decode M.cc pc = .ok (.iand, 1))  (h : mj_Ok Γ d M k n (pc + 1) lv (.int (x &&& y) :: st) S P) : mj_Ok Γ d M k n pc lv (.int y :: .int x :: st) S P := by
  intro p e R s m args below meth c H locs cells slots ls hX hS hW hL hN
  exact lv_iand hX.1 hX.2.1 hd  (h p e R s m args below meth c H locs cells slots ls hX hS hW hL hN)
theorem mj_ior {x y : Int32} (hd : decode M.cc pc = .ok (.ior, 1))  (h : mj_Ok Γ d M k n (pc + 1) lv (.int (x ||| y) :: st) S P) : mj_Ok Γ d M k n pc lv (.int y :: .int x :: st) S P := by
  intro p e R s m args below meth c H locs cells slots ls hX hS hW hL hN
  exact lv_ior hX.1 hX.2.1 hd  (h p e R s m args below meth c H locs cells slots ls hX hS hW hL hN)
theorem mj_ishl {x y : Int32} (hd : decode M.cc pc = .ok (.ishl, 1))  (h : mj_Ok Γ d M k n (pc + 1) lv (.int (x <<< (y &&& 31)) :: st) S P) : mj_Ok Γ d M k n pc lv (.int y :: .int x :: st) S P := by
  intro p e R s m args below meth c H locs cells slots ls hX hS hW hL hN
  exact lv_ishl hX.1 hX.2.1 hd  (h p e R s m args below meth c H locs cells slots ls hX hS hW hL hN)
theorem mj_ishr {x y : Int32} (hd : decode M.cc pc = .ok (.ishr, 1))  (h : mj_Ok Γ d M k n (pc + 1) lv (.int (x >>> (y &&& 31)) :: st) S P) : mj_Ok Γ d M k n pc lv (.int y :: .int x :: st) S P := by
  intro p e R s m args below meth c H locs cells slots ls hX hS hW hL hN
  exact lv_ishr hX.1 hX.2.1 hd  (h p e R s m args below meth c H locs cells slots ls hX hS hW hL hN)
theorem mj_idiv {x y : Int32} (hd : decode M.cc pc = .ok (.idiv, 1)) (hne : ¬ y = 0) (h : mj_Ok Γ d M k n (pc + 1) lv (.int (x / y) :: st) S P) : mj_Ok Γ d M k n pc lv (.int y :: .int x :: st) S P := by
  intro p e R s m args below meth c H locs cells slots ls hX hS hW hL hN
  exact lv_idiv hX.1 hX.2.1 hd hne (h p e R s m args below meth c H locs cells slots ls hX hS hW hL hN)
theorem mj_irem {x y : Int32} (hd : decode M.cc pc = .ok (.irem, 1)) (hne : ¬ y = 0) (h : mj_Ok Γ d M k n (pc + 1) lv (.int (x - x / y * y) :: st) S P) : mj_Ok Γ d M k n pc lv (.int y :: .int x :: st) S P := by
  intro p e R s m args below meth c H locs cells slots ls hX hS hW hL hN
  exact lv_irem hX.1 hX.2.1 hd hne (h p e R s m args below meth c H locs cells slots ls hX hS hW hL hN)
theorem mj_ineg {x : Int32} (hd : decode M.cc pc = .ok (.ineg, 1))  (h : mj_Ok Γ d M k n (pc + 1) lv (.int (-x) :: st) S P) : mj_Ok Γ d M k n pc lv (.int x :: st) S P := by
  intro p e R s m args below meth c H locs cells slots ls hX hS hW hL hN
  exact lv_ineg hX.1 hX.2.1 hd  (h p e R s m args below meth c H locs cells slots ls hX hS hW hL hN)
theorem mj_iconst {i : Int} {v : Int32} (hd : decode M.cc pc = .ok (.iconst i, 1)) (hv : Int32.ofInt i = v) (h : mj_Ok Γ d M k n (pc + 1) lv (.int v :: st) S P) : mj_Ok Γ d M k n pc lv (st) S P := by
  intro p e R s m args below meth c H locs cells slots ls hX hS hW hL hN
  exact lv_iconst hX.1 hX.2.1 hd hv (h p e R s m args below meth c H locs cells slots ls hX hS hW hL hN)
theorem mj_bipush {i : Int} {v : Int32} (hd : decode M.cc pc = .ok (.bipush i, 2)) (hv : (Int8.ofInt i).toInt32 = v) (h : mj_Ok Γ d M k n (pc + 2) lv (.int v :: st) S P) : mj_Ok Γ d M k n pc lv (st) S P := by
  intro p e R s m args below meth c H locs cells slots ls hX hS hW hL hN
  exact lv_bipush hX.1 hX.2.1 hd hv (h p e R s m args below meth c H locs cells slots ls hX hS hW hL hN)
theorem mj_sipush {i : Int} {v : Int32} (hd : decode M.cc pc = .ok (.sipush i, 3)) (hv : (Int16.ofInt i).toInt32 = v) (h : mj_Ok Γ d M k n (pc + 3) lv (.int v :: st) S P) : mj_Ok Γ d M k n pc lv (st) S P := by
  intro p e R s m args below meth c H locs cells slots ls hX hS hW hL hN
  exact lv_sipush hX.1 hX.2.1 hd hv (h p e R s m args below meth c H locs cells slots ls hX hS hW hL hN)
theorem mj_i2l {x : Int32} (hd : decode M.cc pc = .ok (.i2l, 1))  (h : mj_Ok Γ d M k n (pc + 1) lv (.long x.toInt64 :: st) S P) : mj_Ok Γ d M k n pc lv (.int x :: st) S P := by
  intro p e R s m args below meth c H locs cells slots ls hX hS hW hL hN
  exact lv_i2l hX.1 hX.2.1 hd rfl (h p e R s m args below meth c H locs cells slots ls hX hS hW hL hN)
theorem mj_i2c {x : Int32} (hd : decode M.cc pc = .ok (.i2c, 1))  (h : mj_Ok Γ d M k n (pc + 1) lv (.int (x.toUInt32 % 65536).toInt32 :: st) S P) : mj_Ok Γ d M k n pc lv (.int x :: st) S P := by
  intro p e R s m args below meth c H locs cells slots ls hX hS hW hL hN
  exact lv_i2c hX.1 hX.2.1 hd rfl (h p e R s m args below meth c H locs cells slots ls hX hS hW hL hN)
theorem mj_lcmp {x y : Int64} (hd : decode M.cc pc = .ok (.lcmp, 1))  (h : mj_Ok Γ d M k n (pc + 1) lv (.int (lg_cmp x y) :: st) S P) : mj_Ok Γ d M k n pc lv (.long y :: .long x :: st) S P := by
  intro p e R s m args below meth c H locs cells slots ls hX hS hW hL hN
  exact W.lcmp hX.1 hX.2.1 hd  (h p e R s m args below meth c H locs cells slots ls hX hS hW hL hN)
theorem mj_iload {i : Nat} {x : Int32} (hd : decode M.cc pc = .ok (.iload i, 2)) (hi : lv[i]? = some (.int x)) (h : mj_Ok Γ d M k n (pc + 2) lv (.int x :: st) S P) : mj_Ok Γ d M k n pc lv (st) S P := by
  intro p e R s m args below meth c H locs cells slots ls hX hS hW hL hN
  exact lv_iload hX.1 hX.2.1 hd (hL.at hi rfl) (h p e R s m args below meth c H locs cells slots ls hX hS hW hL hN)
theorem mj_aload {i : Nat} {x : Nat} (hd : decode M.cc pc = .ok (.aload i, 2)) (hi : lv[i]? = some (.ref x)) (h : mj_Ok Γ d M k n (pc + 2) lv (.ref x :: st) S P) : mj_Ok Γ d M k n pc lv (st) S P := by
  intro p e R s m args below meth c H locs cells slots ls hX hS hW hL hN
  exact lv_aload hX.1 hX.2.1 hd (hL.at hi rfl) (h p e R s m args below meth c H locs cells slots ls hX hS hW hL hN)
theorem mj_iload_n {i : Fin 4} {x : Int32} (hd : decode M.cc pc = .ok (.iload_n i, 1)) (hi : lv[(i : Nat)]? = some (.int x)) (h : mj_Ok Γ d M k n (pc + 1) lv (.int x :: st) S P) : mj_Ok Γ d M k n pc lv (st) S P := by
  intro p e R s m args below meth c H locs cells slots ls hX hS hW hL hN
  exact lv_iload_n hX.1 hX.2.1 hd rfl (hL.at hi rfl) (h p e R s m args below meth c H locs cells slots ls hX hS hW hL hN)
theorem mj_aload_n {i : Fin 4} {x : Nat} (hd : decode M.cc pc = .ok (.aload_n i, 1)) (hi : lv[(i : Nat)]? = some (.ref x)) (h : mj_Ok Γ d M k n (pc + 1) lv (.ref x :: st) S P) : mj_Ok Γ d M k n pc lv (st) S P := by
  intro p e R s m args below meth c H locs cells slots ls hX hS hW hL hN
  exact lv_aload_n hX.1 hX.2.1 hd rfl (hL.at hi rfl) (h p e R s m args below meth c H locs cells slots ls hX hS hW hL hN)
theorem mj_dup {v : Value} (hd : decode M.cc pc = .ok (.dup, 1)) (hv : v.category = 1) (h : mj_Ok Γ d M k n (pc + 1) lv (v :: v :: st) S P) : mj_Ok Γ d M k n pc lv (v :: st) S P := by
  intro p e R s m args below meth c H locs cells slots ls hX hS hW hL hN
  exact lv_dup hX.1 hX.2.1 hd ((mj_v_cat v).trans hv) (h p e R s m args below meth c H locs cells slots ls hX hS hW hL hN)
theorem mj_dup2 {v w : Value} (hd : decode M.cc pc = .ok (.dup2, 1)) (hv : v.category = 1) (hw : w.category = 1) (h : mj_Ok Γ d M k n (pc + 1) lv (v :: w :: v :: w :: st) S P) : mj_Ok Γ d M k n pc lv (v :: w :: st) S P := by
  intro p e R s m args below meth c H locs cells slots ls hX hS hW hL hN
  exact lv_dup2_11 hX.1 hX.2.1 hd ((mj_v_cat v).trans hv) ((mj_v_cat w).trans hw) (h p e R s m args below meth c H locs cells slots ls hX hS hW hL hN)
theorem mj_pop {v : Value} (hd : decode M.cc pc = .ok (.pop, 1)) (hv : v.category = 1) (h : mj_Ok Γ d M k n (pc + 1) lv (st) S P) : mj_Ok Γ d M k n pc lv (v :: st) S P := by
  intro p e R s m args below meth c H locs cells slots ls hX hS hW hL hN
  exact lv_pop hX.1 hX.2.1 hd ((mj_v_cat v).trans hv) (h p e R s m args below meth c H locs cells slots ls hX hS hW hL hN)
theorem mj_null  (hd : decode M.cc pc = .ok (.aconst_null, 1))  (h : mj_Ok Γ d M k n (pc + 1) lv (.null :: st) S P) : mj_Ok Γ d M k n pc lv (st) S P := by
  intro p e R s m args below meth c H locs cells slots ls hX hS hW hL hN
  exact lv_null hX.1 hX.2.1 hd  (h p e R s m args below meth c H locs cells slots ls hX hS hW hL hN)
theorem mj_istore {i : Nat} {x : Int32} {lv' : List Value} (hd : decode M.cc pc = .ok (.istore i, 2)) (hc : mj_c1 lv = true) (hi : Nat.blt i lv.length = true) (hl : lv.set i (.int x) = lv') (h : mj_Ok Γ d M k n (pc + 2) lv' st S P) : mj_Ok Γ d M k n pc lv (.int x :: st) S P := by
  intro p e R s m args below meth c H locs cells slots ls hX hS hW hL hN
  subst hl
  exact lv_istore hX.1 hX.2.1 hd hL.has (Nat.le_of_ble_eq_true hi) rfl (fun ls' hl' => h p e R s m args below meth c H locs cells slots ls' hX hS hW (mj_L.store (v := .int x) hc hl') (by rw [List.length_set]; exact hN))
theorem mj_astore {i : Nat} {x : Nat} {lv' : List Value} (hd : decode M.cc pc = .ok (.astore i, 2)) (hc : mj_c1 lv = true) (hi : Nat.blt i lv.length = true) (hl : lv.set i (.ref x) = lv') (h : mj_Ok Γ d M k n (pc + 2) lv' st S P) : mj_Ok Γ d M k n pc lv (.ref x :: st) S P := by
  intro p e R s m args below meth c H locs cells slots ls hX hS hW hL hN
  subst hl
  exact lv_astore hX.1 hX.2.1 hd hL.has (Nat.le_of_ble_eq_true hi) rfl (fun ls' hl' => h p e R s m args below meth c H locs cells slots ls' hX hS hW (mj_L.store (v := .ref x) hc hl') (by rw [List.length_set]; exact hN))
theorem mj_istore_n {i : Fin 4} {x : Int32} {lv' : List Value} (hd : decode M.cc pc = .ok (.istore_n i, 1)) (hc : mj_c1 lv = true) (hi : Nat.blt (i : Nat) lv.length = true) (hl : lv.set (i : Nat) (.int x) = lv') (h : mj_Ok Γ d M k n (pc + 1) lv' st S P) : mj_Ok Γ d M k n pc lv (.int x :: st) S P := by
  intro p e R s m args below meth c H locs cells slots ls hX hS hW hL hN
  subst hl
  exact lv_istore_n hX.1 hX.2.1 hd rfl hL.has (Nat.le_of_ble_eq_true hi) rfl (fun ls' hl' => h p e R s m args below meth c H locs cells slots ls' hX hS hW (mj_L.store (v := .int x) hc hl') (by rw [List.length_set]; exact hN))
theorem mj_astore_n {i : Fin 4} {x : Nat} {lv' : List Value} (hd : decode M.cc pc = .ok (.astore_n i, 1)) (hc : mj_c1 lv = true) (hi : Nat.blt (i : Nat) lv.length = true) (hl : lv.set (i : Nat) (.ref x) = lv') (h : mj_Ok Γ d M k n (pc + 1) lv' st S P) : mj_Ok Γ d M k n pc lv (.ref x :: st) S P := by
  intro p e R s m args below meth c H locs cells slots ls hX hS hW hL hN
  subst hl
  exact lv_astore_n hX.1 hX.2.1 hd rfl hL.has (Nat.le_of_ble_eq_true hi) rfl (fun ls' hl' => h p e R s m args below meth c H locs cells slots ls' hX hS hW (mj_L.store (v := .ref x) hc hl') (by rw [List.length_set]; exact hN))
theorem mj_iinc {i : Nat} {z : Int} {x v : Int32} {lv' : List Value} (hd : decode M.cc pc = .ok (.iinc i z, 3)) (hc : mj_c1 lv = true) (hx : lv[i]? = some (.int x)) (hv : x + Int32.ofInt z = v) (hl : lv.set i (.int v) = lv') (h : mj_Ok Γ d M k n (pc + 3) lv' st S P) : mj_Ok Γ d M k n pc lv st S P := by
  intro p e R s m args below meth c H locs cells slots ls hX hS hW hL hN
  subst hl
  obtain ⟨q, hq⟩ := List.getElem?_of_mem (mj_al_mem (Γ := Γ) hx rfl)
  exact lv_iinc hX.1 hX.2.1 hd hL.has (k := q) hq hv (List.getElem?_eq_some_iff.mp hx).1 rfl (fun ls' hl' => h p e R s m args below meth c H locs cells slots ls' hX hS hW (mj_L.store (v := .int v) hc hl') (by rw [List.length_set]; exact hN))
theorem mj_goto {off : Int} (tgt : Nat) (hd : decode M.cc pc = .ok (.goto off, 3)) (ht : (pc : Int) + off = (tgt : Int)) (h : mj_Ok Γ d M k n tgt lv st S P) : mj_Ok Γ d M k n pc lv st S P := by
  intro p e R s m args below meth c H locs cells slots ls hX hS hW hL hN
  exact lv_goto hX.1 hX.2.1 hd ht (h p e R s m args below meth c H locs cells slots ls hX hS hW hL hN)
theorem mj_if_eq {x : Int32} {off : Int} (tgt : Nat) (hd : decode M.cc pc = .ok (.ifCond .eq off, 3)) (ht : (pc : Int) + off = (tgt : Int)) (ht1 : x = 0 → mj_Ok Γ d M k n tgt lv st S P) (hf1 : ¬ (x = 0) → mj_Ok Γ d M k n (pc + 3) lv st S P) : mj_Ok Γ d M k n pc lv (.int x :: st) S P := by
  intro p e R s m args below meth c H locs cells slots ls hX hS hW hL hN
  exact lv_if_eq hX.1 hX.2.1 hd ht (fun q => ht1 q p e R s m args below meth c H locs cells slots ls hX hS hW hL hN) (fun q => hf1 q p e R s m args below meth c H locs cells slots ls hX hS hW hL hN)
theorem mj_icmp_eq {x y : Int32} {off : Int} (tgt : Nat) (hd : decode M.cc pc = .ok (.if_icmp .eq off, 3)) (ht : (pc : Int) + off = (tgt : Int)) (ht1 : x = y → mj_Ok Γ d M k n tgt lv st S P) (hf1 : ¬ (x = y) → mj_Ok Γ d M k n (pc + 3) lv st S P) : mj_Ok Γ d M k n pc lv (.int y :: .int x :: st) S P := by
  intro p e R s m args below meth c H locs cells slots ls hX hS hW hL hN
  exact lv_icmp_eq hX.1 hX.2.1 hd ht (fun q => ht1 q p e R s m args below meth c H locs cells slots ls hX hS hW hL hN) (fun q => hf1 q p e R s m args below meth c H locs cells slots ls hX hS hW hL hN)
theorem mj_if_ne {x : Int32} {off : Int} (tgt : Nat) (hd : decode M.cc pc = .ok (.ifCond .ne off, 3)) (ht : (pc : Int) + off = (tgt : Int)) (ht1 : ¬ x = 0 → mj_Ok Γ d M k n tgt lv st S P) (hf1 : x = 0 → mj_Ok Γ d M k n (pc + 3) lv st S P) : mj_Ok Γ d M k n pc lv (.int x :: st) S P := by
  intro p e R s m args below meth c H locs cells slots ls hX hS hW hL hN
  exact lv_if_ne hX.1 hX.2.1 hd ht (fun q => ht1 q p e R s m args below meth c H locs cells slots ls hX hS hW hL hN) (fun q => hf1 q p e R s m args below meth c H locs cells slots ls hX hS hW hL hN)
theorem mj_icmp_ne {x y : Int32} {off : Int} (tgt : Nat) (hd : decode M.cc pc = .ok (.if_icmp .ne off, 3)) (ht : (pc : Int) + off = (tgt : Int)) (ht1 : ¬ x = y → mj_Ok Γ d M k n tgt lv st S P) (hf1 : x = y → mj_Ok Γ d M k n (pc + 3) lv st S P) : mj_Ok Γ d M k n pc lv (.int y :: .int x :: st) S P := by
  intro p e R s m args below meth c H locs cells slots ls hX hS hW hL hN
  exact lv_icmp_ne hX.1 hX.2.1 hd ht (fun q => ht1 q p e R s m args below meth c H locs cells slots ls hX hS hW hL hN) (fun q => hf1 q p e R s m args below meth c H locs cells slots ls hX hS hW hL hN)
theorem mj_if_lt {x : Int32} {off : Int} (tgt : Nat) (hd : decode M.cc pc = .ok (.ifCond .lt off, 3)) (ht : (pc : Int) + off = (tgt : Int)) (ht1 : x < 0 → mj_Ok Γ d M k n tgt lv st S P) (hf1 : ¬ (x < 0) → mj_Ok Γ d M k n (pc + 3) lv st S P) : mj_Ok Γ d M k n pc lv (.int x :: st) S P := by
  intro p e R s m args below meth c H locs cells slots ls hX hS hW hL hN
  exact lv_if_lt hX.1 hX.2.1 hd ht (fun q => ht1 q p e R s m args below meth c H locs cells slots ls hX hS hW hL hN) (fun q => hf1 q p e R s m args below meth c H locs cells slots ls hX hS hW hL hN)
theorem mj_icmp_lt {x y : Int32} {off : Int} (tgt : Nat) (hd : decode M.cc pc = .ok (.if_icmp .lt off, 3)) (ht : (pc : Int) + off = (tgt : Int)) (ht1 : x < y → mj_Ok Γ d M k n tgt lv st S P) (hf1 : ¬ (x < y) → mj_Ok Γ d M k n (pc + 3) lv st S P) : mj_Ok Γ d M k n pc lv (.int y :: .int x :: st) S P := by
  intro p e R s m args below meth c H locs cells slots ls hX hS hW hL hN
  exact lv_icmp_lt hX.1 hX.2.1 hd ht (fun q => ht1 q p e R s m args below meth c H locs cells slots ls hX hS hW hL hN) (fun q => hf1 q p e R s m args below meth c H locs cells slots ls hX hS hW hL hN)
theorem mj_if_ge {x : Int32} {off : Int} (tgt : Nat) (hd : decode M.cc pc = .ok (.ifCond .ge off, 3)) (ht : (pc : Int) + off = (tgt : Int)) (ht1 : 0 ≤ x → mj_Ok Γ d M k n tgt lv st S P) (hf1 : ¬ (0 ≤ x) → mj_Ok Γ d M k n (pc + 3) lv st S P) : mj_Ok Γ d M k n pc lv (.int x :: st) S P := by
  intro p e R s m args below meth c H locs cells slots ls hX hS hW hL hN
  exact lv_if_ge hX.1 hX.2.1 hd ht (fun q => ht1 q p e R s m args below meth c H locs cells slots ls hX hS hW hL hN) (fun q => hf1 q p e R s m args below meth c H locs cells slots ls hX hS hW hL hN)
theorem mj_icmp_ge {x y : Int32} {off : Int} (tgt : Nat) (hd : decode M.cc pc = .ok (.if_icmp .ge off, 3)) (ht : (pc : Int) + off = (tgt : Int)) (ht1 : y ≤ x → mj_Ok Γ d M k n tgt lv st S P) (hf1 : ¬ (y ≤ x) → mj_Ok Γ d M k n (pc + 3) lv st S P) : mj_Ok Γ d M k n pc lv (.int y :: .int x :: st) S P := by
  intro p e R s m args below meth c H locs cells slots ls hX hS hW hL hN
  exact lv_icmp_ge hX.1 hX.2.1 hd ht (fun q => ht1 q p e R s m args below meth c H locs cells slots ls hX hS hW hL hN) (fun q => hf1 q p e R s m args below meth c H locs cells slots ls hX hS hW hL hN)
theorem mj_if_gt {x : Int32} {off : Int} (tgt : Nat) (hd : decode M.cc pc = .ok (.ifCond .gt off, 3)) (ht : (pc : Int) + off = (tgt : Int)) (ht1 : 0 < x → mj_Ok Γ d M k n tgt lv st S P) (hf1 : ¬ (0 < x) → mj_Ok Γ d M k n (pc + 3) lv st S P) : mj_Ok Γ d M k n pc lv (.int x :: st) S P := by
  intro p e R s m args below meth c H locs cells slots ls hX hS hW hL hN
  exact lv_if_gt hX.1 hX.2.1 hd ht (fun q => ht1 q p e R s m args below meth c H locs cells slots ls hX hS hW hL hN) (fun q => hf1 q p e R s m args below meth c H locs cells slots ls hX hS hW hL hN)
theorem mj_icmp_gt {x y : Int32} {off : Int} (tgt : Nat) (hd : decode M.cc pc = .ok (.if_icmp .gt off, 3)) (ht : (pc : Int) + off = (tgt : Int)) (ht1 : y < x → mj_Ok Γ d M k n tgt lv st S P) (hf1 : ¬ (y < x) → mj_Ok Γ d M k n (pc + 3) lv st S P) : mj_Ok Γ d M k n pc lv (.int y :: .int x :: st) S P := by
  intro p e R s m args below meth c H locs cells slots ls hX hS hW hL hN
  exact lv_icmp_gt hX.1 hX.2.1 hd ht (fun q => ht1 q p e R s m args below meth c H locs cells slots ls hX hS hW hL hN) (fun q => hf1 q p e R s m args below meth c H locs cells slots ls hX hS hW hL hN)
theorem mj_if_le {x : Int32} {off : Int} (tgt : Nat) (hd : decode M.cc pc = .ok (.ifCond .le off, 3)) (ht : (pc : Int) + off = (tgt : Int)) (ht1 : x ≤ 0 → mj_Ok Γ d M k n tgt lv st S P) (hf1 : ¬ (x ≤ 0) → mj_Ok Γ d M k n (pc + 3) lv st S P) : mj_Ok Γ d M k n pc lv (.int x :: st) S P := by
  intro p e R s m args below meth c H locs cells slots ls hX hS hW hL hN
  exact lv_if_le hX.1 hX.2.1 hd ht (fun q => ht1 q p e R s m args below meth c H locs cells slots ls hX hS hW hL hN) (fun q => hf1 q p e R s m args below meth c H locs cells slots ls hX hS hW hL hN)
theorem mj_icmp_le {x y : Int32} {off : Int} (tgt : Nat) (hd : decode M.cc pc = .ok (.if_icmp .le off, 3)) (ht : (pc : Int) + off = (tgt : Int)) (ht1 : x ≤ y → mj_Ok Γ d M k n tgt lv st S P) (hf1 : ¬ (x ≤ y) → mj_Ok Γ d M k n (pc + 3) lv st S P) : mj_Ok Γ d M k n pc lv (.int y :: .int x :: st) S P := by
  intro p e R s m args below meth c H locs cells slots ls hX hS hW hL hN
  exact lv_icmp_le hX.1 hX.2.1 hd ht (fun q => ht1 q p e R s m args below meth c H locs cells slots ls hX hS hW hL hN) (fun q => hf1 q p e R s m args below meth c H locs cells slots ls hX hS hW hL hN)
theorem mj_tabIn {x : Int32} {dflt lo hi off : Int} {offs : Array Int} {len : Nat} (tgt : Nat) (hd : decode M.cc pc = .ok (.tableswitch dflt lo hi offs, len)) (h1 : ¬ x.toInt < lo) (h2 : ¬ hi < x.toInt) (ho : offs[(x.toInt - lo).toNat]? = some off) (ht : (pc : Int) + off = (tgt : Int)) (h : mj_Ok Γ d M k n tgt lv st S P) : mj_Ok Γ d M k n pc lv (.int x :: st) S P := by
  intro p e R s m args below meth c H locs cells slots ls hX hS hW hL hN
  exact lv_tableIn hX.1 hX.2.1 hd h1 h2 ho ht (h p e R s m args below meth c H locs cells slots ls hX hS hW hL hN)
theorem mj_tabOut {x : Int32} {dflt lo hi : Int} {offs : Array Int} {len : Nat} (tgt : Nat) (hd : decode M.cc pc = .ok (.tableswitch dflt lo hi offs, len)) (h1 : x.toInt < lo ∨ hi < x.toInt) (ht : (pc : Int) + dflt = (tgt : Int)) (h : mj_Ok Γ d M k n tgt lv st S P) : mj_Ok Γ d M k n pc lv (.int x :: st) S P := by
  intro p e R s m args below meth c H locs cells slots ls hX hS hW hL hN
  exact lv_tableOut hX.1 hX.2.1 hd h1 ht (h p e R s m args below meth c H locs cells slots ls hX hS hW hL hN)
/-- fewer rooms asked -/
theorem mj_Ok.more {d' k' n' : Nat} (hd : d ≤ d') (hk : k ≤ k') (hn : n ≤ n') (h : mj_Ok Γ d M k n pc lv st S P) : mj_Ok Γ d' M k' n' pc lv st S P := by
  intro p e R s m args below meth c H locs cells slots ls hX hS hW hL hN
  obtain ⟨x1, x2, x3, x4, x5, x6, x7, x8, x9, x10, x11, x12⟩ := hX
  have w := h p e R s m args below meth c H locs (cells + (k' - k)) (slots + (n' - n)) ls ⟨x1, x2, x3, x4, x5, x6, x7, by omega, by omega, by omega, by omega, x12⟩ hS hW hL hN
  have e1 : cells + (k' - k) + k = cells + k' := by omega
  have e2 : slots + (n' - n) + n = slots + n' := by omega
  rw [e1, e2] at w
  exact W.widen (Nat.le_add_right _ _) (Nat.le_add_right _ _) w
theorem mj_Ok.post {P' : mj_O → mj_S → Prop} (hp : ∀ o S', P o S' → P' o S') (h : mj_Ok Γ d M k n pc lv st S P) : mj_Ok Γ d M k n pc lv st S P' := by
  intro p e R s m args below meth c H locs cells slots ls hX hS hW hL hN
  intro T hT X
  obtain ⟨t, a1, o, b1, b2, ⟨out, S', c1, c2, c3⟩, b4⟩ := h p e R s m args below meth c H locs cells slots ls hX hS hW hL hN T hT X
  exact ⟨t, a1, o, b1, b2, ⟨out, S', c1, hp _ _ c2, c3⟩, b4⟩
/-! returns -/
theorem mj_ret_aux {p : Program} {e : Env} {R : Room} {s : State} {m : MethodId} {args : Array Value} {below : List Frame} {meth : Method} {c : Code} {H : Heap} {locs : List Loc} {cells slots : Nat} {g : JFrame} {v : Option Value}
    (hS : va_S (mj_A Γ) s.heap H locs) (hW : mj_W Γ S H) (hP : P (.inl v) S)
    (h : W p Γ.l e R s m args below meth c H locs (cells + k) (slots + n) (MQ below (fun _ _ o t => o = .returned (v.map (mj_v Γ)) ∧ t.heap = H) args s (cells + k) (slots + n) (mj_A Γ)) g) :
    W p Γ.l e R s m args below meth c H locs cells slots (mj_Q Γ below s (cells + k) (slots + n) P) g := by
  refine W.widen (Nat.le_add_right cells k) (Nat.le_add_right slots n) ?_
  intro T hT X
  obtain ⟨t, a1, o, b1, b2, ⟨b3, b5⟩, L, ⟨f1, f2, f3⟩, f4⟩ := h T hT X
  exact ⟨t, a1, o, b1, b2, ⟨.inl v, S, b3, hP, by rw [b5]; exact hW⟩, hS.F b5, f2, L, f3, f4⟩
theorem mj_iret {x : Int32} {ty : FieldType} (hd : decode M.cc pc = .ok (.ireturn, 1)) (hr : M.ret = some ty) (hn : narrow ty (.int x) = .int x) (hP : P (.inl (some (.int x))) S) : mj_Ok Γ d M k n pc lv [.int x] S P := by
  intro p e R s m args below meth c H locs cells slots ls hX hS hW hL hN
  have hlocks : meth.locks = false := hX.2.2.2.1
  exact mj_ret_aux hS hW hP (W.zret hX.1 hX.2.1 (hX.2.2.1.trans hr) hn (fun t ht _ => ⟨rfl, ht⟩) hS.2.2 hd)
theorem mj_vret (hd : decode M.cc pc = .ok (.return_, 1)) (hr : M.ret = none) (hP : P (.inl none) S) : mj_Ok Γ d M k n pc lv [] S P := by
  intro p e R s m args below meth c H locs cells slots ls hX hS hW hL hN
  have hlocks : meth.locks = false := hX.2.2.2.1
  exact mj_ret_aux hS hW hP (W.vret hX.1 hX.2.1 (hX.2.2.1.trans hr) (fun t ht _ => ⟨rfl, ht⟩) hS.2.2 hd)
end MJ4
