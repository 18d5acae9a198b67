/-! shifts, masks, or: over naturals below 2 ^ 31 -/
theorem mj_s31 : ∀ s, s < 32 → ((nI s &&& 31).toBitVec.smod 32).toNat = s := by decide
section BT
variable {Γ : mj_G} {d : Nat} {M : mj_M} {k n pc : Nat} {lv st : List Value} {S : mj_S} {P : mj_O → mj_S → Prop}
theorem mz_ishl {x s : Nat} {zx zs : Int} (hd : decode M.cc pc = .ok (.ishl, 1)) (hx : zx = x) (hs : zs = s) (h31 : s < 32) (hb : x * 2 ^ s < 2147483648) (h : mj_Ok Γ d M k n (pc + 1) lv (.int (iZ ((x * 2 ^ s : Nat) : Int)) :: st) S P) : mj_Ok Γ d M k n pc lv (.int (iZ zs) :: .int (iZ zx) :: st) S P := by
  subst hx; subst hs
  refine mj_ishl hd ?_
  have e : iZ (x : Int) <<< (iZ (s : Int) &&& 31) = iZ ((x * 2 ^ s : Nat) : Int) := pk_shlN (n := x) (nI s &&& 31) s (mj_s31 s h31) (by omega)
  rw [e]
  exact h
theorem mz_ishr {x s : Nat} {zx zs : Int} (hd : decode M.cc pc = .ok (.ishr, 1)) (hx : zx = x) (hs : zs = s) (h31 : s < 32) (hb : x < 2147483648) (h : mj_Ok Γ d M k n (pc + 1) lv (.int (iZ ((x / 2 ^ s : Nat) : Int)) :: st) S P) : mj_Ok Γ d M k n pc lv (.int (iZ zs) :: .int (iZ zx) :: st) S P := by
  subst hx; subst hs
  refine mj_ishr hd ?_
  have e : iZ (x : Int) >>> (iZ (s : Int) &&& 31) = iZ ((x / 2 ^ s : Nat) : Int) := pk_shrN (n := x) (by omega) (nI s &&& 31) s (mj_s31 s h31)
  rw [e]
  exact h
theorem mj_nor (x y : Nat) : nI x ||| nI y = nI (x ||| y) := by
  apply Int32.toBitVec_inj.mp
  show BitVec.ofNat 32 x ||| BitVec.ofNat 32 y = BitVec.ofNat 32 (x ||| y)
  apply BitVec.eq_of_toNat_eq
  simp [Nat.or_mod_two_pow]
theorem mz_ior {x y : Nat} {zx zy : Int} (hd : decode M.cc pc = .ok (.ior, 1)) (hx : zx = x) (hy : zy = y) (h : mj_Ok Γ d M k n (pc + 1) lv (.int (iZ ((x ||| y : Nat) : Int)) :: st) S P) : mj_Ok Γ d M k n pc lv (.int (iZ zy) :: .int (iZ zx) :: st) S P := by
  subst hx; subst hy
  refine mj_ior hd ?_
  have e : iZ (x : Int) ||| iZ (y : Int) = iZ ((x ||| y : Nat) : Int) := mj_nor x y
  rw [e]
  exact h
theorem mz_iand {x q : Nat} {zx zm : Int} (hd : decode M.cc pc = .ok (.iand, 1)) (hx : zx = x) (hm : zm = ((2 ^ q - 1 : Nat) : Int)) (hq : q < 32) (hb : x < 2147483648) (h : mj_Ok Γ d M k n (pc + 1) lv (.int (iZ ((x % 2 ^ q : Nat) : Int)) :: st) S P) : mj_Ok Γ d M k n pc lv (.int (iZ zm) :: .int (iZ zx) :: st) S P := by
  subst hx; subst hm
  refine mj_iand hd ?_
  have h2 : 2 ^ q ≤ 2 ^ 31 := Nat.pow_le_pow_right (by decide) (by omega)
  have h3 : 0 < 2 ^ q := Nat.two_pow_pos q
  have e : iZ (x : Int) &&& iZ ((2 ^ q - 1 : Nat) : Int) = iZ ((x % 2 ^ q : Nat) : Int) := pk_andN (n := x) (by omega) (m := nI (2 ^ q - 1)) q (pk_tn (by omega))
  rw [e]
  exact h
/-- and of two naturals -/
theorem mj_nand (x y : Nat) : nI x &&& nI y = nI (x &&& y) := by
  apply Int32.toBitVec_inj.mp
  show BitVec.ofNat 32 x &&& BitVec.ofNat 32 y = BitVec.ofNat 32 (x &&& y)
  apply BitVec.eq_of_toNat_eq
  simp [Nat.and_mod_two_pow]
theorem mz_iandN {x y : Nat} {zx zy : Int} (hd : decode M.cc pc = .ok (.iand, 1)) (hx : zx = x) (hy : zy = y) (h : mj_Ok Γ d M k n (pc + 1) lv (.int (iZ ((x &&& y : Nat) : Int)) :: st) S P) : mj_Ok Γ d M k n pc lv (.int (iZ zy) :: .int (iZ zx) :: st) S P := by
  subst hx; subst hy
  refine mj_iand hd ?_
  have e : iZ (x : Int) &&& iZ (y : Int) = iZ ((x &&& y : Nat) : Int) := mj_nand x y
  rw [e]
  exact h
end BT
theorem mj_lor4 (x b : Nat) (hb : b < 4) : x * 4 ||| b = x * 4 + b := by
  have := Nat.two_pow_add_eq_or_of_lt (i := 2) (b := b) hb x
  rw [Nat.mul_comm x 4]
  exact this.symm
