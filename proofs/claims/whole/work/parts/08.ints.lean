/-! mj, part 08: an int as an integer: iZ z; the rows again, over such numbers. -/
def iZ (z : Int) : Int32 := Int32.ofInt z
/-- z is an int -/
abbrev iR (z : Int) : Prop := -2147483648 ≤ z ∧ z ≤ 2147483647
theorem iZ_toInt {z : Int} (h : iR z) : (iZ z).toInt = z := Int32.toInt_ofInt_of_le h.1 (by have := h.2; omega)
theorem iZ_add (x y : Int) : iZ x + iZ y = iZ (x + y) := (Int32.ofInt_add x y).symm
theorem iZ_sub (x y : Int) : iZ x - iZ y = iZ (x - y) := (Int32.ofInt_sub x y).symm
theorem iZ_mul (x y : Int) : iZ x * iZ y = iZ (x * y) := (Int32.ofInt_mul x y).symm
theorem iZ_neg (x : Int) : -iZ x = iZ (-x) := (Int32.ofInt_neg x).symm
theorem iZ_nat (n : Nat) : iZ (n : Int) = nI n := rfl
theorem iZ_lt {x y : Int} (hx : iR x) (hy : iR y) : iZ x < iZ y ↔ x < y := by
  rw [Int32.lt_iff_toInt_lt, iZ_toInt hx, iZ_toInt hy]
theorem iZ_le {x y : Int} (hx : iR x) (hy : iR y) : iZ x ≤ iZ y ↔ x ≤ y := by
  rw [Int32.le_iff_toInt_le, iZ_toInt hx, iZ_toInt hy]
theorem iZ_eq {x y : Int} (hx : iR x) (hy : iR y) : iZ x = iZ y ↔ x = y := by
  rw [← Int32.toInt_inj, iZ_toInt hx, iZ_toInt hy]
theorem iZ_0 : iZ 0 = 0 := rfl
theorem iZ_div {a b : Int} (ha : 0 ≤ a) (ha2 : a ≤ 2147483647) (hb : 0 < b) (hb2 : b ≤ 2147483647) : iZ a / iZ b = iZ (a / b) := by
  obtain ⟨m, rfl⟩ := Int.eq_ofNat_of_zero_le ha
  obtain ⟨n, rfl⟩ := Int.eq_ofNat_of_zero_le (Int.le_of_lt hb)
  rw [iZ_nat, iZ_nat, pk_div (by omega) (by omega) (by omega), ← iZ_nat, Int.natCast_ediv]
theorem iZ_rem {a b : Int} (ha : 0 ≤ a) (ha2 : a ≤ 2147483647) (hb : 0 < b) (hb2 : b ≤ 2147483647) : iZ a - iZ a / iZ b * iZ b = iZ (a % b) := by
  rw [iZ_div ha ha2 hb hb2, iZ_mul, iZ_sub]
  congr 1
  rw [Int.emod_def, Int.mul_comm]
/-- an array's contents -/
def mj_z (A : Nat → Int) : Nat → Int32 := fun j => iZ (A j)
theorem mj_z_up (A : Nat → Int) (j : Nat) (v : Int) : upd (mj_z A) j (iZ v) = mj_z (va_up A j v) := by
  funext i
  by_cases h : i = j
  · subst h; simp [upd, mj_z, va_up]
  · simp [upd, mj_z, va_up, h]
/-- what lies outside l is as it was -/
def mj_fr (S S' : mj_S) (l : List Nat) : Prop := S'.2 = S.2 ∧ ∀ j, j ∉ l → S'.1 j = S.1 j
theorem mj_fr.rf (S : mj_S) (l : List Nat) : mj_fr S S l := ⟨rfl, fun _ _ => rfl⟩
theorem mj_fr.tr {S S1 S2 : mj_S} {l1 l2 l : List Nat} (h1 : mj_fr S S1 l1) (h2 : mj_fr S1 S2 l2) (hl1 : ∀ j ∈ l1, j ∈ l) (hl2 : ∀ j ∈ l2, j ∈ l) : mj_fr S S2 l :=
  ⟨h2.1.trans h1.1, fun j hj => (h2.2 j fun q => hj (hl2 j q)).trans (h1.2 j fun q => hj (hl1 j q))⟩
theorem mj_fr.w {S S' : mj_S} {l : List Nat} (h : mj_fr S S' l) : S'.2.1 = S.2.1 := by rw [h.1]
theorem mj_fr.up (S : mj_S) (a : Nat) (e : mj_E) : mj_fr S (mj_up S a e) [a] := ⟨rfl, fun j hj => mj_up_ne S e (by simpa using hj)⟩
theorem mj_fr.at {S S' : mj_S} {l : List Nat} (h : mj_fr S S' l) {a : Nat} {e : mj_E} (he : S.1 a = e) (ha : a ∉ l) : S'.1 a = e := (h.2 a ha).trans he
section MJ8
variable {Γ : mj_G} {d : Nat} {M : mj_M} {k n pc : Nat} {lv st : List Value} {S : mj_S} {P : mj_O → mj_S → Prop}
theorem mz_iadd {x y : Int} (hd : decode M.cc pc = .ok (.iadd, 1)) (h : mj_Ok Γ d M k n (pc + 1) lv (.int (iZ (x + y)) :: st) S P) : mj_Ok Γ d M k n pc lv (.int (iZ y) :: .int (iZ x) :: st) S P := mj_iadd hd (by rw [iZ_add]; exact h)
theorem mz_isub {x y : Int} (hd : decode M.cc pc = .ok (.isub, 1)) (h : mj_Ok Γ d M k n (pc + 1) lv (.int (iZ (x - y)) :: st) S P) : mj_Ok Γ d M k n pc lv (.int (iZ y) :: .int (iZ x) :: st) S P := mj_isub hd (by rw [iZ_sub]; exact h)
theorem mz_imul {x y : Int} (hd : decode M.cc pc = .ok (.imul, 1)) (h : mj_Ok Γ d M k n (pc + 1) lv (.int (iZ (x * y)) :: st) S P) : mj_Ok Γ d M k n pc lv (.int (iZ y) :: .int (iZ x) :: st) S P := mj_imul hd (by rw [iZ_mul]; exact h)
theorem mz_idiv {x y : Int} (hd : decode M.cc pc = .ok (.idiv, 1)) (hx : 0 ≤ x) (hx2 : x ≤ 2147483647) (hy : 0 < y) (hy2 : y ≤ 2147483647) (h : mj_Ok Γ d M k n (pc + 1) lv (.int (iZ (x / y)) :: st) S P) : mj_Ok Γ d M k n pc lv (.int (iZ y) :: .int (iZ x) :: st) S P :=
  mj_idiv hd (fun e => by have := (iZ_eq (x := y) (y := 0) (by omega) (by omega)).mp e; omega) (by rw [iZ_div hx hx2 hy hy2]; exact h)
theorem mz_irem {x y : Int} (hd : decode M.cc pc = .ok (.irem, 1)) (hx : 0 ≤ x) (hx2 : x ≤ 2147483647) (hy : 0 < y) (hy2 : y ≤ 2147483647) (h : mj_Ok Γ d M k n (pc + 1) lv (.int (iZ (x % y)) :: st) S P) : mj_Ok Γ d M k n pc lv (.int (iZ y) :: .int (iZ x) :: st) S P :=
  mj_irem hd (fun e => by have := (iZ_eq (x := y) (y := 0) (by omega) (by omega)).mp e; omega) (by rw [iZ_rem hx hx2 hy hy2]; exact h)
theorem mz_ineg {x : Int} (hd : decode M.cc pc = .ok (.ineg, 1)) (h : mj_Ok Γ d M k n (pc + 1) lv (.int (iZ (-x)) :: st) S P) : mj_Ok Γ d M k n pc lv (.int (iZ x) :: st) S P := mj_ineg hd (by rw [iZ_neg]; exact h)
theorem mz_iconst {i : Int} (hd : decode M.cc pc = .ok (.iconst i, 1)) (h : mj_Ok Γ d M k n (pc + 1) lv (.int (iZ i) :: st) S P) : mj_Ok Γ d M k n pc lv st S P := mj_iconst hd rfl h
theorem mz_bipush {i : Int} (hd : decode M.cc pc = .ok (.bipush i, 2)) (hv : (Int8.ofInt i).toInt32 = iZ i) (h : mj_Ok Γ d M k n (pc + 2) lv (.int (iZ i) :: st) S P) : mj_Ok Γ d M k n pc lv st S P := mj_bipush hd hv h
theorem mz_sipush {i : Int} (hd : decode M.cc pc = .ok (.sipush i, 3)) (hv : (Int16.ofInt i).toInt32 = iZ i) (h : mj_Ok Γ d M k n (pc + 3) lv (.int (iZ i) :: st) S P) : mj_Ok Γ d M k n pc lv st S P := mj_sipush hd hv h
theorem mz_iinc {i : Nat} {x z : Int} {lv' : List Value} (hd : decode M.cc pc = .ok (.iinc i z, 3)) (hc : mj_c1 lv = true) (hx : lv[i]? = some (.int (iZ x))) (hl : lv.set i (.int (iZ (x + z))) = lv') (h : mj_Ok Γ d M k n (pc + 3) lv' st S P) : mj_Ok Γ d M k n pc lv st S P := mj_iinc hd hc hx (iZ_add x z) hl h
theorem mz_if_eq {x : Int} {off : Int} (tgt : Nat) (hd : decode M.cc pc = .ok (.ifCond .eq off, 3)) (ht : (pc : Int) + off = (tgt : Int)) (hx : iR x) (ht1 : x = 0 → mj_Ok Γ d M k n tgt lv st S P) (hf1 : x ≠ 0 → mj_Ok Γ d M k n (pc + 3) lv st S P) : mj_Ok Γ d M k n pc lv (.int (iZ x) :: st) S P := mj_if_eq tgt hd ht (fun q => ht1 ((iZ_eq (x := x) (y := 0) hx (by omega)).mp q)) (fun q => hf1 fun e => q ((iZ_eq (x := x) (y := 0) hx (by omega)).mpr e))
theorem mz_icmp_eq {x y : Int} {off : Int} (tgt : Nat) (hd : decode M.cc pc = .ok (.if_icmp .eq off, 3)) (ht : (pc : Int) + off = (tgt : Int)) (hx : iR x) (hy : iR y) (ht1 : x = y → mj_Ok Γ d M k n tgt lv st S P) (hf1 : x ≠ y → mj_Ok Γ d M k n (pc + 3) lv st S P) : mj_Ok Γ d M k n pc lv (.int (iZ y) :: .int (iZ x) :: st) S P := mj_icmp_eq tgt hd ht (fun q => ht1 ((iZ_eq (x := x) (y := y) hx hy).mp q)) (fun q => hf1 fun e => q ((iZ_eq (x := x) (y := y) hx hy).mpr e))
theorem mz_if_ne {x : Int} {off : Int} (tgt : Nat) (hd : decode M.cc pc = .ok (.ifCond .ne off, 3)) (ht : (pc : Int) + off = (tgt : Int)) (hx : iR x) (ht1 : x ≠ 0 → mj_Ok Γ d M k n tgt lv st S P) (hf1 : x = 0 → mj_Ok Γ d M k n (pc + 3) lv st S P) : mj_Ok Γ d M k n pc lv (.int (iZ x) :: st) S P := mj_if_ne tgt hd ht (fun q => ht1 fun e => q ((iZ_eq (x := x) (y := 0) hx (by omega)).mpr e)) (fun q => hf1 ((iZ_eq (x := x) (y := 0) hx (by omega)).mp q))
theorem mz_icmp_ne {x y : Int} {off : Int} (tgt : Nat) (hd : decode M.cc pc = .ok (.if_icmp .ne off, 3)) (ht : (pc : Int) + off = (tgt : Int)) (hx : iR x) (hy : iR y) (ht1 : x ≠ y → mj_Ok Γ d M k n tgt lv st S P) (hf1 : x = y → mj_Ok Γ d M k n (pc + 3) lv st S P) : mj_Ok Γ d M k n pc lv (.int (iZ y) :: .int (iZ x) :: st) S P := mj_icmp_ne tgt hd ht (fun q => ht1 fun e => q ((iZ_eq (x := x) (y := y) hx hy).mpr e)) (fun q => hf1 ((iZ_eq (x := x) (y := y) hx hy).mp q))
theorem mz_if_lt {x : Int} {off : Int} (tgt : Nat) (hd : decode M.cc pc = .ok (.ifCond .lt off, 3)) (ht : (pc : Int) + off = (tgt : Int)) (hx : iR x) (ht1 : x < 0 → mj_Ok Γ d M k n tgt lv st S P) (hf1 : 0 ≤ x → mj_Ok Γ d M k n (pc + 3) lv st S P) : mj_Ok Γ d M k n pc lv (.int (iZ x) :: st) S P := mj_if_lt tgt hd ht (fun q => ht1 ((iZ_lt (x := x) (y := 0) hx (by omega)).mp q)) (fun q => hf1 (by have w9 : ¬ (x < 0) := fun e => q ((iZ_lt (x := x) (y := 0) hx (by omega)).mpr e); omega))
theorem mz_icmp_lt {x y : Int} {off : Int} (tgt : Nat) (hd : decode M.cc pc = .ok (.if_icmp .lt off, 3)) (ht : (pc : Int) + off = (tgt : Int)) (hx : iR x) (hy : iR y) (ht1 : x < y → mj_Ok Γ d M k n tgt lv st S P) (hf1 : y ≤ x → mj_Ok Γ d M k n (pc + 3) lv st S P) : mj_Ok Γ d M k n pc lv (.int (iZ y) :: .int (iZ x) :: st) S P := mj_icmp_lt tgt hd ht (fun q => ht1 ((iZ_lt (x := x) (y := y) hx hy).mp q)) (fun q => hf1 (by have w9 : ¬ (x < y) := fun e => q ((iZ_lt (x := x) (y := y) hx hy).mpr e); omega))
theorem mz_if_ge {x : Int} {off : Int} (tgt : Nat) (hd : decode M.cc pc = .ok (.ifCond .ge off, 3)) (ht : (pc : Int) + off = (tgt : Int)) (hx : iR x) (ht1 : 0 ≤ x → mj_Ok Γ d M k n tgt lv st S P) (hf1 : x < 0 → mj_Ok Γ d M k n (pc + 3) lv st S P) : mj_Ok Γ d M k n pc lv (.int (iZ x) :: st) S P := mj_if_ge tgt hd ht (fun q => ht1 ((iZ_le (x := 0) (y := x) (by omega) hx).mp q)) (fun q => hf1 (by have w9 : ¬ (0 ≤ x) := fun e => q ((iZ_le (x := 0) (y := x) (by omega) hx).mpr e); omega))
theorem mz_icmp_ge {x y : Int} {off : Int} (tgt : Nat) (hd : decode M.cc pc = .ok (.if_icmp .ge off, 3)) (ht : (pc : Int) + off = (tgt : Int)) (hx : iR x) (hy : iR y) (ht1 : y ≤ x → mj_Ok Γ d M k n tgt lv st S P) (hf1 : x < y → mj_Ok Γ d M k n (pc + 3) lv st S P) : mj_Ok Γ d M k n pc lv (.int (iZ y) :: .int (iZ x) :: st) S P := mj_icmp_ge tgt hd ht (fun q => ht1 ((iZ_le (x := y) (y := x) hy hx).mp q)) (fun q => hf1 (by have w9 : ¬ (y ≤ x) := fun e => q ((iZ_le (x := y) (y := x) hy hx).mpr e); omega))
theorem mz_if_gt {x : Int} {off : Int} (tgt : Nat) (hd : decode M.cc pc = .ok (.ifCond .gt off, 3)) (ht : (pc : Int) + off = (tgt : Int)) (hx : iR x) (ht1 : 0 < x → mj_Ok Γ d M k n tgt lv st S P) (hf1 : x ≤ 0 → mj_Ok Γ d M k n (pc + 3) lv st S P) : mj_Ok Γ d M k n pc lv (.int (iZ x) :: st) S P := mj_if_gt tgt hd ht (fun q => ht1 ((iZ_lt (x := 0) (y := x) (by omega) hx).mp q)) (fun q => hf1 (by have w9 : ¬ (0 < x) := fun e => q ((iZ_lt (x := 0) (y := x) (by omega) hx).mpr e); omega))
theorem mz_icmp_gt {x y : Int} {off : Int} (tgt : Nat) (hd : decode M.cc pc = .ok (.if_icmp .gt off, 3)) (ht : (pc : Int) + off = (tgt : Int)) (hx : iR x) (hy : iR y) (ht1 : y < x → mj_Ok Γ d M k n tgt lv st S P) (hf1 : x ≤ y → mj_Ok Γ d M k n (pc + 3) lv st S P) : mj_Ok Γ d M k n pc lv (.int (iZ y) :: .int (iZ x) :: st) S P := mj_icmp_gt tgt hd ht (fun q => ht1 ((iZ_lt (x := y) (y := x) hy hx).mp q)) (fun q => hf1 (by have w9 : ¬ (y < x) := fun e => q ((iZ_lt (x := y) (y := x) hy hx).mpr e); omega))
theorem mz_if_le {x : Int} {off : Int} (tgt : Nat) (hd : decode M.cc pc = .ok (.ifCond .le off, 3)) (ht : (pc : Int) + off = (tgt : Int)) (hx : iR x) (ht1 : x ≤ 0 → mj_Ok Γ d M k n tgt lv st S P) (hf1 : 0 < x → mj_Ok Γ d M k n (pc + 3) lv st S P) : mj_Ok Γ d M k n pc lv (.int (iZ x) :: st) S P := mj_if_le tgt hd ht (fun q => ht1 ((iZ_le (x := x) (y := 0) hx (by omega)).mp q)) (fun q => hf1 (by have w9 : ¬ (x ≤ 0) := fun e => q ((iZ_le (x := x) (y := 0) hx (by omega)).mpr e); omega))
theorem mz_icmp_le {x y : Int} {off : Int} (tgt : Nat) (hd : decode M.cc pc = .ok (.if_icmp .le off, 3)) (ht : (pc : Int) + off = (tgt : Int)) (hx : iR x) (hy : iR y) (ht1 : x ≤ y → mj_Ok Γ d M k n tgt lv st S P) (hf1 : y < x → mj_Ok Γ d M k n (pc + 3) lv st S P) : mj_Ok Γ d M k n pc lv (.int (iZ y) :: .int (iZ x) :: st) S P := mj_icmp_le tgt hd ht (fun q => ht1 ((iZ_le (x := x) (y := y) hx hy).mp q)) (fun q => hf1 (by have w9 : ¬ (x ≤ y) := fun e => q ((iZ_le (x := x) (y := y) hx hy).mpr e); omega))
theorem mz_iald {a N j : Nat} {z : Int} {A : Nat → Int} (hd : decode M.cc pc = .ok (.iaload, 1)) (ha : a < S.2.1) (he : S.1 a = .inl (0, N, .inl (mj_z A))) (hz : z = (j : Int)) (hj : j < N) (h : mj_Ok Γ d M k n (pc + 1) lv (.int (iZ (A j)) :: st) S P) (hN : N < 2147483648 := by decide) : mj_Ok Γ d M k n pc lv (.int (iZ z) :: .ref a :: st) S P := mj_iald hd ha he (by rw [hz]; rfl) hj h hN
theorem mz_cald {a N j : Nat} {z : Int} {A : Nat → Int} (hd : decode M.cc pc = .ok (.caload, 1)) (ha : a < S.2.1) (he : S.1 a = .inl (1, N, .inl (mj_z A))) (hz : z = (j : Int)) (hj : j < N) (h : mj_Ok Γ d M k n (pc + 1) lv (.int (iZ (A j)) :: st) S P) (hN : N < 2147483648 := by decide) : mj_Ok Γ d M k n pc lv (.int (iZ z) :: .ref a :: st) S P := mj_cald hd ha he (by rw [hz]; rfl) hj h hN
theorem mz_zald {a N j : Nat} {z : Int} {A : Nat → Int} (hd : decode M.cc pc = .ok (.baload, 1)) (ha : a < S.2.1) (he : S.1 a = .inl (2, N, .inl (mj_z A))) (hz : z = (j : Int)) (hj : j < N) (h : mj_Ok Γ d M k n (pc + 1) lv (.int (iZ (A j)) :: st) S P) (hN : N < 2147483648 := by decide) : mj_Ok Γ d M k n pc lv (.int (iZ z) :: .ref a :: st) S P := mj_zald hd ha he (by rw [hz]; rfl) hj h hN
theorem mz_iast {a N j : Nat} {z v : Int} {A : Nat → Int} (hd : decode M.cc pc = .ok (.iastore, 1)) (ha : a < S.2.1) (he : S.1 a = .inl (0, N, .inl (mj_z A))) (hz : z = (j : Int)) (hj : j < N)  (h : ∀ S1 : mj_S, S1.2.1 = S.2.1 → S1.1 a = .inl (0, N, .inl (mj_z (va_up A j v))) → mj_fr S S1 [a] → mj_Ok Γ d M k n (pc + 1) lv st S1 P) (hN : N < 2147483648 := by decide) : mj_Ok Γ d M k n pc lv (.int (iZ v) :: .int (iZ z) :: .ref a :: st) S P :=
  mj_iast hd ha he (by rw [hz]; rfl) hj (h _ rfl (by rw [mj_up_self, mj_z_up]) (mj_fr.up _ _ _)) hN
theorem mz_cast {a N j : Nat} {z v : Int} {A : Nat → Int} (hd : decode M.cc pc = .ok (.castore, 1)) (ha : a < S.2.1) (he : S.1 a = .inl (1, N, .inl (mj_z A))) (hz : z = (j : Int)) (hj : j < N) (hx : narrow .char (.int (iZ v)) = .int (iZ v)) (h : ∀ S1 : mj_S, S1.2.1 = S.2.1 → S1.1 a = .inl (1, N, .inl (mj_z (va_up A j v))) → mj_fr S S1 [a] → mj_Ok Γ d M k n (pc + 1) lv st S1 P) (hN : N < 2147483648 := by decide) : mj_Ok Γ d M k n pc lv (.int (iZ v) :: .int (iZ z) :: .ref a :: st) S P :=
  mj_cast hd ha he (by rw [hz]; rfl) hj hx (h _ rfl (by rw [mj_up_self, mj_z_up]) (mj_fr.up _ _ _)) hN
theorem mz_zast {a N j : Nat} {z v : Int} {A : Nat → Int} (hd : decode M.cc pc = .ok (.bastore, 1)) (ha : a < S.2.1) (he : S.1 a = .inl (2, N, .inl (mj_z A))) (hz : z = (j : Int)) (hj : j < N) (hx : narrow .boolean (.int (iZ v)) = .int (iZ v)) (h : ∀ S1 : mj_S, S1.2.1 = S.2.1 → S1.1 a = .inl (2, N, .inl (mj_z (va_up A j v))) → mj_fr S S1 [a] → mj_Ok Γ d M k n (pc + 1) lv st S1 P) (hN : N < 2147483648 := by decide) : mj_Ok Γ d M k n pc lv (.int (iZ v) :: .int (iZ z) :: .ref a :: st) S P :=
  mj_zast hd ha he (by rw [hz]; rfl) hj hx (h _ rfl (by rw [mj_up_self, mj_z_up]) (mj_fr.up _ _ _)) hN
theorem mz_iro {r j : Nat} {z : Int} (hd : decode M.cc pc = .ok (.iaload, 1)) (hr : r < 4) (ht : mj_rt r = 0) (hz : z = (j : Int)) (hj : j < (Γ.ro r).1) (hN : (Γ.ro r).1 < 2147483648) {v : Int} (hv : mj_ai (Γ.ro r) j = iZ v) (h : mj_Ok Γ d M k n (pc + 1) lv (.int (iZ v) :: st) S P) : mj_Ok Γ d M k n pc lv (.int (iZ z) :: .ref (mj_st + r) :: st) S P := mj_iro hd hr ht (by rw [hz]; rfl) hj hN (by rw [hv]; exact h)
theorem mz_cro {r j : Nat} {z : Int} (hd : decode M.cc pc = .ok (.caload, 1)) (hr : r < 4) (ht : mj_rt r = 1) (hz : z = (j : Int)) (hj : j < (Γ.ro r).1) (hN : (Γ.ro r).1 < 2147483648) {v : Int} (hv : mj_ai (Γ.ro r) j = iZ v) (h : mj_Ok Γ d M k n (pc + 1) lv (.int (iZ v) :: st) S P) : mj_Ok Γ d M k n pc lv (.int (iZ z) :: .ref (mj_st + r) :: st) S P := mj_cro hd hr ht (by rw [hz]; rfl) hj hN (by rw [hv]; exact h)
theorem mz_put {idx ci j a : Nat} {q : vw_C} {fs fs' : List Value} {v : Value} (hd : decode M.cc pc = .ok (.putfield idx, 3)) (hq : mj_cl[ci]? = some q) (hw : mj_fw M.own idx (q.2.1 j).1 (q.2.1 j).2.1 (q.2.1 j).2.2.1) (hj : j < q.2.2)
    (hfin : (q.2.1 j).2.2.2 = false) (ha : a < S.2.1) (he : S.1 a = .inr (ci, fs)) (hl : j < fs.length) (hfit : mj_fit (mj_t ci j) v) (hs : fs.set j v = fs')
    (h : ∀ S1 : mj_S, S1.2.1 = S.2.1 → S1.1 a = .inr (ci, fs') → mj_fr S S1 [a] → mj_Ok Γ d M k n (pc + 3) lv st S1 P) : mj_Ok Γ d M k n pc lv (v :: .ref a :: st) S P :=
  mj_put hd hq hw hj (Or.inl hfin) ha he hl hfit hs (h _ rfl (mj_up_self _ _ _) (mj_fr.up _ _ _))
theorem mz_putF {idx ci j a : Nat} {q : vw_C} {fs fs' : List Value} {v : Value} (hd : decode M.cc pc = .ok (.putfield idx, 3)) (hq : mj_cl[ci]? = some q) (hw : mj_fw M.own idx (q.2.1 j).1 (q.2.1 j).2.1 (q.2.1 j).2.2.1) (hj : j < q.2.2)
    (hfin : M.name = "<init>" ∧ (q.2.1 j).1 = M.own ∧ Cond.fieldLink M.own idx (q.2.1 j).1 (q.2.1 j).2.1 (q.2.1 j).2.2.1 ∈ mj_tb) (ha : a < S.2.1) (he : S.1 a = .inr (ci, fs)) (hl : j < fs.length) (hfit : mj_fit (mj_t ci j) v) (hs : fs.set j v = fs')
    (h : ∀ S1 : mj_S, S1.2.1 = S.2.1 → S1.1 a = .inr (ci, fs') → mj_fr S S1 [a] → mj_Ok Γ d M k n (pc + 3) lv st S1 P) : mj_Ok Γ d M k n pc lv (v :: .ref a :: st) S P :=
  mj_put hd hq hw hj (Or.inr hfin) ha he hl hfit hs (h _ rfl (mj_up_self _ _ _) (mj_fr.up _ _ _))
variable {d1 mc ms : Nat} {M1 : mj_M} {Q : Option Value → mj_S → Prop} {y : MethodName}
theorem mz_callV0 {idx a ci : Nat} {q : vw_C} {fs : List Value} (hd : decode M.cc pc = .ok (.invokevirtual idx, 3)) (hM : mj_Met Γ d1 y M1 (.ref a :: []) S mc ms (mj_ret Q)) (hcw : mj_cw y M1 0) (hw : Cond.methodLink M.own idx y ∈ mj_tb ∧ Cond.instanceMethod y ∈ mj_tb ∧ Cond.selects y.cls y y ∈ mj_tb)
    (hq : mj_cl[ci]? = some q) (hqc : q.1 = y.cls) (ha : a < S.2.1) (he : S.1 a = .inr (ci, fs)) (hd1 : d1 < d) (hst : Nat.ble (st.map fun v => v.category).sum 8 = true)
    (hk : ∀ (v : Option Value) (S' : mj_S), Q v S' → mj_Ok Γ d M k n (pc + 3) lv (v.toList ++ st) S' P) : mj_Ok Γ d M (k + mc) (n + ms) pc lv (.ref a :: st) S P := mj_callV (As := []) hd hM hcw hw hq hqc ha he hd1 hst hk
theorem mz_callS0 {idx : Nat} (hd : decode M.cc pc = .ok (.invokestatic idx, 3)) (hM : mj_Met Γ d1 y M1 [] S mc ms (mj_ret Q)) (hcw : mj_cw y M1 0) (hw : Cond.methodLink M.own idx y ∈ mj_tb ∧ Cond.static y ∈ mj_tb)
    (hd1 : d1 < d) (hst : Nat.ble (st.map fun v => v.category).sum 8 = true)
    (hk : ∀ (v : Option Value) (S' : mj_S), Q v S' → mj_Ok Γ d M k n (pc + 3) lv (v.toList ++ st) S' P) : mj_Ok Γ d M (k + mc) (n + ms) pc lv (st) S P := mj_callS (As := []) hd hM hcw hw hd1 hst hk
theorem mz_callSN0 {idx : Nat} (hd : decode M.cc pc = .ok (.invokestatic idx, 3)) (hM : mj_Met Γ d1 y M1 [] S mc ms (mj_ret Q)) (hcw : mj_cw y M1 0) (hw : Cond.methodLinkNest M.own idx y "IsomerList" ∈ lw_tbl ∧ Cond.static y ∈ mj_tb)
    (hd1 : d1 < d) (hst : Nat.ble (st.map fun v => v.category).sum 8 = true)
    (hk : ∀ (v : Option Value) (S' : mj_S), Q v S' → mj_Ok Γ d M k n (pc + 3) lv (v.toList ++ st) S' P) : mj_Ok Γ d M (k + mc) (n + ms) pc lv (st) S P := mj_callSN (As := []) hd hM hcw hw hd1 hst hk
theorem mz_callV1 {idx a ci : Nat} {q : vw_C} {fs : List Value} {v1 : Value} (hd : decode M.cc pc = .ok (.invokevirtual idx, 3)) (hM : mj_Met Γ d1 y M1 (.ref a :: [v1]) S mc ms (mj_ret Q)) (hcw : mj_cw y M1 1) (hw : Cond.methodLink M.own idx y ∈ mj_tb ∧ Cond.instanceMethod y ∈ mj_tb ∧ Cond.selects y.cls y y ∈ mj_tb)
    (hq : mj_cl[ci]? = some q) (hqc : q.1 = y.cls) (ha : a < S.2.1) (he : S.1 a = .inr (ci, fs)) (hd1 : d1 < d) (hst : Nat.ble (st.map fun v => v.category).sum 8 = true)
    (hk : ∀ (v : Option Value) (S' : mj_S), Q v S' → mj_Ok Γ d M k n (pc + 3) lv (v.toList ++ st) S' P) : mj_Ok Γ d M (k + mc) (n + ms) pc lv (v1 :: .ref a :: st) S P := mj_callV (As := [v1]) hd hM hcw hw hq hqc ha he hd1 hst hk
theorem mz_callS1 {idx : Nat} {v1 : Value} (hd : decode M.cc pc = .ok (.invokestatic idx, 3)) (hM : mj_Met Γ d1 y M1 [v1] S mc ms (mj_ret Q)) (hcw : mj_cw y M1 1) (hw : Cond.methodLink M.own idx y ∈ mj_tb ∧ Cond.static y ∈ mj_tb)
    (hd1 : d1 < d) (hst : Nat.ble (st.map fun v => v.category).sum 8 = true)
    (hk : ∀ (v : Option Value) (S' : mj_S), Q v S' → mj_Ok Γ d M k n (pc + 3) lv (v.toList ++ st) S' P) : mj_Ok Γ d M (k + mc) (n + ms) pc lv (v1 :: st) S P := mj_callS (As := [v1]) hd hM hcw hw hd1 hst hk
theorem mz_callSN1 {idx : Nat} {v1 : Value} (hd : decode M.cc pc = .ok (.invokestatic idx, 3)) (hM : mj_Met Γ d1 y M1 [v1] S mc ms (mj_ret Q)) (hcw : mj_cw y M1 1) (hw : Cond.methodLinkNest M.own idx y "IsomerList" ∈ lw_tbl ∧ Cond.static y ∈ mj_tb)
    (hd1 : d1 < d) (hst : Nat.ble (st.map fun v => v.category).sum 8 = true)
    (hk : ∀ (v : Option Value) (S' : mj_S), Q v S' → mj_Ok Γ d M k n (pc + 3) lv (v.toList ++ st) S' P) : mj_Ok Γ d M (k + mc) (n + ms) pc lv (v1 :: st) S P := mj_callSN (As := [v1]) hd hM hcw hw hd1 hst hk
theorem mz_callV2 {idx a ci : Nat} {q : vw_C} {fs : List Value} {v1 v2 : Value} (hd : decode M.cc pc = .ok (.invokevirtual idx, 3)) (hM : mj_Met Γ d1 y M1 (.ref a :: [v1, v2]) S mc ms (mj_ret Q)) (hcw : mj_cw y M1 2) (hw : Cond.methodLink M.own idx y ∈ mj_tb ∧ Cond.instanceMethod y ∈ mj_tb ∧ Cond.selects y.cls y y ∈ mj_tb)
    (hq : mj_cl[ci]? = some q) (hqc : q.1 = y.cls) (ha : a < S.2.1) (he : S.1 a = .inr (ci, fs)) (hd1 : d1 < d) (hst : Nat.ble (st.map fun v => v.category).sum 8 = true)
    (hk : ∀ (v : Option Value) (S' : mj_S), Q v S' → mj_Ok Γ d M k n (pc + 3) lv (v.toList ++ st) S' P) : mj_Ok Γ d M (k + mc) (n + ms) pc lv (v2 :: v1 :: .ref a :: st) S P := mj_callV (As := [v1, v2]) hd hM hcw hw hq hqc ha he hd1 hst hk
theorem mz_callS2 {idx : Nat} {v1 v2 : Value} (hd : decode M.cc pc = .ok (.invokestatic idx, 3)) (hM : mj_Met Γ d1 y M1 [v1, v2] S mc ms (mj_ret Q)) (hcw : mj_cw y M1 2) (hw : Cond.methodLink M.own idx y ∈ mj_tb ∧ Cond.static y ∈ mj_tb)
    (hd1 : d1 < d) (hst : Nat.ble (st.map fun v => v.category).sum 8 = true)
    (hk : ∀ (v : Option Value) (S' : mj_S), Q v S' → mj_Ok Γ d M k n (pc + 3) lv (v.toList ++ st) S' P) : mj_Ok Γ d M (k + mc) (n + ms) pc lv (v2 :: v1 :: st) S P := mj_callS (As := [v1, v2]) hd hM hcw hw hd1 hst hk
theorem mz_callSN2 {idx : Nat} {v1 v2 : Value} (hd : decode M.cc pc = .ok (.invokestatic idx, 3)) (hM : mj_Met Γ d1 y M1 [v1, v2] S mc ms (mj_ret Q)) (hcw : mj_cw y M1 2) (hw : Cond.methodLinkNest M.own idx y "IsomerList" ∈ lw_tbl ∧ Cond.static y ∈ mj_tb)
    (hd1 : d1 < d) (hst : Nat.ble (st.map fun v => v.category).sum 8 = true)
    (hk : ∀ (v : Option Value) (S' : mj_S), Q v S' → mj_Ok Γ d M k n (pc + 3) lv (v.toList ++ st) S' P) : mj_Ok Γ d M (k + mc) (n + ms) pc lv (v2 :: v1 :: st) S P := mj_callSN (As := [v1, v2]) hd hM hcw hw hd1 hst hk
theorem mz_callV3 {idx a ci : Nat} {q : vw_C} {fs : List Value} {v1 v2 v3 : Value} (hd : decode M.cc pc = .ok (.invokevirtual idx, 3)) (hM : mj_Met Γ d1 y M1 (.ref a :: [v1, v2, v3]) S mc ms (mj_ret Q)) (hcw : mj_cw y M1 3) (hw : Cond.methodLink M.own idx y ∈ mj_tb ∧ Cond.instanceMethod y ∈ mj_tb ∧ Cond.selects y.cls y y ∈ mj_tb)
    (hq : mj_cl[ci]? = some q) (hqc : q.1 = y.cls) (ha : a < S.2.1) (he : S.1 a = .inr (ci, fs)) (hd1 : d1 < d) (hst : Nat.ble (st.map fun v => v.category).sum 8 = true)
    (hk : ∀ (v : Option Value) (S' : mj_S), Q v S' → mj_Ok Γ d M k n (pc + 3) lv (v.toList ++ st) S' P) : mj_Ok Γ d M (k + mc) (n + ms) pc lv (v3 :: v2 :: v1 :: .ref a :: st) S P := mj_callV (As := [v1, v2, v3]) hd hM hcw hw hq hqc ha he hd1 hst hk
theorem mz_callS3 {idx : Nat} {v1 v2 v3 : Value} (hd : decode M.cc pc = .ok (.invokestatic idx, 3)) (hM : mj_Met Γ d1 y M1 [v1, v2, v3] S mc ms (mj_ret Q)) (hcw : mj_cw y M1 3) (hw : Cond.methodLink M.own idx y ∈ mj_tb ∧ Cond.static y ∈ mj_tb)
    (hd1 : d1 < d) (hst : Nat.ble (st.map fun v => v.category).sum 8 = true)
    (hk : ∀ (v : Option Value) (S' : mj_S), Q v S' → mj_Ok Γ d M k n (pc + 3) lv (v.toList ++ st) S' P) : mj_Ok Γ d M (k + mc) (n + ms) pc lv (v3 :: v2 :: v1 :: st) S P := mj_callS (As := [v1, v2, v3]) hd hM hcw hw hd1 hst hk
theorem mz_callSN3 {idx : Nat} {v1 v2 v3 : Value} (hd : decode M.cc pc = .ok (.invokestatic idx, 3)) (hM : mj_Met Γ d1 y M1 [v1, v2, v3] S mc ms (mj_ret Q)) (hcw : mj_cw y M1 3) (hw : Cond.methodLinkNest M.own idx y "IsomerList" ∈ lw_tbl ∧ Cond.static y ∈ mj_tb)
    (hd1 : d1 < d) (hst : Nat.ble (st.map fun v => v.category).sum 8 = true)
    (hk : ∀ (v : Option Value) (S' : mj_S), Q v S' → mj_Ok Γ d M k n (pc + 3) lv (v.toList ++ st) S' P) : mj_Ok Γ d M (k + mc) (n + ms) pc lv (v3 :: v2 :: v1 :: st) S P := mj_callSN (As := [v1, v2, v3]) hd hM hcw hw hd1 hst hk
theorem mz_callV4 {idx a ci : Nat} {q : vw_C} {fs : List Value} {v1 v2 v3 v4 : Value} (hd : decode M.cc pc = .ok (.invokevirtual idx, 3)) (hM : mj_Met Γ d1 y M1 (.ref a :: [v1, v2, v3, v4]) S mc ms (mj_ret Q)) (hcw : mj_cw y M1 4) (hw : Cond.methodLink M.own idx y ∈ mj_tb ∧ Cond.instanceMethod y ∈ mj_tb ∧ Cond.selects y.cls y y ∈ mj_tb)
    (hq : mj_cl[ci]? = some q) (hqc : q.1 = y.cls) (ha : a < S.2.1) (he : S.1 a = .inr (ci, fs)) (hd1 : d1 < d) (hst : Nat.ble (st.map fun v => v.category).sum 8 = true)
    (hk : ∀ (v : Option Value) (S' : mj_S), Q v S' → mj_Ok Γ d M k n (pc + 3) lv (v.toList ++ st) S' P) : mj_Ok Γ d M (k + mc) (n + ms) pc lv (v4 :: v3 :: v2 :: v1 :: .ref a :: st) S P := mj_callV (As := [v1, v2, v3, v4]) hd hM hcw hw hq hqc ha he hd1 hst hk
theorem mz_callS4 {idx : Nat} {v1 v2 v3 v4 : Value} (hd : decode M.cc pc = .ok (.invokestatic idx, 3)) (hM : mj_Met Γ d1 y M1 [v1, v2, v3, v4] S mc ms (mj_ret Q)) (hcw : mj_cw y M1 4) (hw : Cond.methodLink M.own idx y ∈ mj_tb ∧ Cond.static y ∈ mj_tb)
    (hd1 : d1 < d) (hst : Nat.ble (st.map fun v => v.category).sum 8 = true)
    (hk : ∀ (v : Option Value) (S' : mj_S), Q v S' → mj_Ok Γ d M k n (pc + 3) lv (v.toList ++ st) S' P) : mj_Ok Γ d M (k + mc) (n + ms) pc lv (v4 :: v3 :: v2 :: v1 :: st) S P := mj_callS (As := [v1, v2, v3, v4]) hd hM hcw hw hd1 hst hk
theorem mz_callSN4 {idx : Nat} {v1 v2 v3 v4 : Value} (hd : decode M.cc pc = .ok (.invokestatic idx, 3)) (hM : mj_Met Γ d1 y M1 [v1, v2, v3, v4] S mc ms (mj_ret Q)) (hcw : mj_cw y M1 4) (hw : Cond.methodLinkNest M.own idx y "IsomerList" ∈ lw_tbl ∧ Cond.static y ∈ mj_tb)
    (hd1 : d1 < d) (hst : Nat.ble (st.map fun v => v.category).sum 8 = true)
    (hk : ∀ (v : Option Value) (S' : mj_S), Q v S' → mj_Ok Γ d M k n (pc + 3) lv (v.toList ++ st) S' P) : mj_Ok Γ d M (k + mc) (n + ms) pc lv (v4 :: v3 :: v2 :: v1 :: st) S P := mj_callSN (As := [v1, v2, v3, v4]) hd hM hcw hw hd1 hst hk
theorem mz_callI0 {idx a : Nat} (hd : decode M.cc pc = .ok (.invokespecial idx, 3)) (hM : mj_Met Γ d1 y M1 (.ref a :: []) S mc ms (mj_ret Q)) (hcw : mj_cw y M1 0) (hw : Cond.methodLink M.own idx y ∈ mj_tb ∧ Cond.instanceMethod y ∈ mj_tb ∧ y.name = "<init>") (hrn : M1.ret = none)
    (hd1 : d1 < d) (hst : Nat.ble (st.map fun v => v.category).sum 8 = true)
    (hk : ∀ (v : Option Value) (S' : mj_S), Q v S' → mj_Ok Γ d M k n (pc + 3) lv (v.toList ++ st) S' P) : mj_Ok Γ d M (k + mc) (n + ms) pc lv (.ref a :: st) S P := mj_callI (As := []) hd hM hcw hw hrn hd1 hst hk
theorem mz_callIN0 {idx a : Nat} (hd : decode M.cc pc = .ok (.invokespecial idx, 3)) (hM : mj_Met Γ d1 y M1 (.ref a :: []) S mc ms (mj_ret Q)) (hcw : mj_cw y M1 0) (hw : Cond.methodLinkNest M.own idx y "IsomerList" ∈ lw_tbl ∧ Cond.instanceMethod y ∈ mj_tb ∧ y.name = "<init>") (hrn : M1.ret = none)
    (hd1 : d1 < d) (hst : Nat.ble (st.map fun v => v.category).sum 8 = true)
    (hk : ∀ (v : Option Value) (S' : mj_S), Q v S' → mj_Ok Γ d M k n (pc + 3) lv (v.toList ++ st) S' P) : mj_Ok Γ d M (k + mc) (n + ms) pc lv (.ref a :: st) S P := mj_callIN (As := []) hd hM hcw hw hrn hd1 hst hk
theorem mz_callI1 {idx a : Nat} {v1 : Value} (hd : decode M.cc pc = .ok (.invokespecial idx, 3)) (hM : mj_Met Γ d1 y M1 (.ref a :: [v1]) S mc ms (mj_ret Q)) (hcw : mj_cw y M1 1) (hw : Cond.methodLink M.own idx y ∈ mj_tb ∧ Cond.instanceMethod y ∈ mj_tb ∧ y.name = "<init>") (hrn : M1.ret = none)
    (hd1 : d1 < d) (hst : Nat.ble (st.map fun v => v.category).sum 8 = true)
    (hk : ∀ (v : Option Value) (S' : mj_S), Q v S' → mj_Ok Γ d M k n (pc + 3) lv (v.toList ++ st) S' P) : mj_Ok Γ d M (k + mc) (n + ms) pc lv (v1 :: .ref a :: st) S P := mj_callI (As := [v1]) hd hM hcw hw hrn hd1 hst hk
theorem mz_callIN1 {idx a : Nat} {v1 : Value} (hd : decode M.cc pc = .ok (.invokespecial idx, 3)) (hM : mj_Met Γ d1 y M1 (.ref a :: [v1]) S mc ms (mj_ret Q)) (hcw : mj_cw y M1 1) (hw : Cond.methodLinkNest M.own idx y "IsomerList" ∈ lw_tbl ∧ Cond.instanceMethod y ∈ mj_tb ∧ y.name = "<init>") (hrn : M1.ret = none)
    (hd1 : d1 < d) (hst : Nat.ble (st.map fun v => v.category).sum 8 = true)
    (hk : ∀ (v : Option Value) (S' : mj_S), Q v S' → mj_Ok Γ d M k n (pc + 3) lv (v.toList ++ st) S' P) : mj_Ok Γ d M (k + mc) (n + ms) pc lv (v1 :: .ref a :: st) S P := mj_callIN (As := [v1]) hd hM hcw hw hrn hd1 hst hk
end MJ8
