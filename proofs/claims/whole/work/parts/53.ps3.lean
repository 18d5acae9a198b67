/-! reading a text: what holds beside; the reference reads a part as the class does -/
/-- bonds are the same from both sides, none beyond the atoms; what is free and what is bound make up the valence; each open branch has an atom -/
def tJ (t : TS) : Prop := match t with
  | (n, K, F, B, _, _, _, br, _, _, _) => br + 1 ≤ n ∧ (∀ j, j < n → F j + mj_rs B j = mj_VAL (K j).toNat) ∧ (∀ x y, x < 6 → y < 6 → B (x * 6 + y) = B (y * 6 + x)) ∧ (∀ x y, x < 6 → y < 6 → n ≤ y → B (x * 6 + y) = 0) ∧ ∀ x, x < 6 → B (x * 6 + x) = 0
def tRm (t : TS) : Bool := t.2.2.2.2.2.2.2.2.2.1
theorem mj_sum_zero {f : Nat → Int} : ∀ m, (∀ y, y < m → f y = 0) → mj_sum f m = 0 := by
  intro m
  induction m with
  | zero => intro _; rfl
  | succ m ih => intro h; rw [mj_sum, ih (fun y hy => h y (by omega)), h m (by omega)]; rfl
theorem bset_J {B : Nat → Int} {a b n : Nat} {v : Int} (ha : a < n) (hb : b < n) (hab : a ≠ b) (hn : n ≤ 6) (h1 : ∀ x y, x < 6 → y < 6 → B (x * 6 + y) = B (y * 6 + x)) (h2 : ∀ x y, x < 6 → y < 6 → n ≤ y → B (x * 6 + y) = 0) (h3 : ∀ x, x < 6 → B (x * 6 + x) = 0) :
    (∀ x y, x < 6 → y < 6 → bset B a b v (x * 6 + y) = bset B a b v (y * 6 + x)) ∧ (∀ x y, x < 6 → y < 6 → n ≤ y → bset B a b v (x * 6 + y) = 0) ∧ ∀ x, x < 6 → bset B a b v (x * 6 + x) = 0 := by
  refine ⟨fun x y hx hy => ?_, fun x y hx hy hny => ?_, fun x hx => ?_⟩
  · rw [bset_xy (by omega) (by omega) hx hy, bset_xy (by omega) (by omega) hy hx, h1 x y hx hy]
    by_cases q : (x = a ∧ y = b) ∨ (x = b ∧ y = a)
    · rw [if_pos q, if_pos (by omega)]
    · rw [if_neg q, if_neg (by omega)]
  · rw [bset_xy (by omega) (by omega) hx hy, if_neg (by omega)]
    exact h2 x y hx hy hny
  · rw [bset_xy (by omega) (by omega) hx hx, if_neg (by omega)]
    exact h3 x hx
theorem tJ_atom {L : Nat} {C : Nat → Int} {t : TS} {to : Int} (hi : tI L t) (hj0 : ∀ n K F B RA RB BA br la rm at_, t = (n, K, F, B, RA, RB, BA, br, la, rm, at_) → br ≤ n ∧ (∀ j, j < n → F j + mj_rs B j = mj_VAL (K j).toNat) ∧ (∀ x y, x < 6 → y < 6 → B (x * 6 + y) = B (y * 6 + x)) ∧ (∀ x y, x < 6 → y < 6 → n ≤ y → B (x * 6 + y) = 0) ∧ ∀ x, x < 6 → B (x * 6 + x) = 0) (hz : (tAtom L C to t).1 = -1) : tJ (tAtom L C to t).2 ∧ tRm (tAtom L C to t).2 = true := by
  obtain ⟨n, K, F, B, RA, RB, BA, br, la, rm, at_⟩ := t
  obtain ⟨h1, h2, ⟨l, rfl, hl⟩, -⟩ := hi
  obtain ⟨j1, j2, j3, j4, j5⟩ := hj0 _ _ _ _ _ _ _ _ _ _ _ rfl
  by_cases q1 : ln_el L C at_ = -1 ∨ ln_el L C at_ = 9
  · rw [show tAtom L C to (n, K, F, B, RA, RB, BA, br, (l : Int), rm, at_) = (-2, (n, K, F, B, RA, RB, BA, br, (l : Int), rm, at_)) from if_pos q1] at hz
    exact absurd hz (by simp)
  · by_cases q2 : 6 ≤ n
    · rw [show tAtom L C to (n, K, F, B, RA, RB, BA, br, (l : Int), rm, at_) = (-5, (n, K, F, B, RA, RB, BA, br, (l : Int), rm, at_)) by unfold tAtom; simp only []; rw [if_neg q1, if_pos q2]] at hz
      exact absurd hz (by simp)
    · have re := ln_el_r L C at_
      obtain ⟨e, he⟩ : ∃ e : Nat, ln_el L C at_ = e := ⟨(ln_el L C at_).toNat, by omega⟩
      have het : (ln_el L C at_).toNat = e := by omega
      have hA : tAtom L C to (n, K, F, B, RA, RB, BA, br, (l : Int), rm, at_) = (-1, (n + 1, va_up K n e, mbind (va_up F n (mj_VAL e)) B l n (max to 1), bset B l n (max to 1), RA, RB, BA, br, (n : Int), true, at_ + if mj_SND e = 0 then 1 else 2)) := by
        unfold tAtom
        simp only []
        rw [if_neg (by omega), if_neg (by omega), het, he, if_neg (by omega), if_neg (by omega)]
        rfl
      rw [hA]
      have hb := bset_J (B := B) (a := l) (b := n) (n := n + 1) (v := max to 1) (by omega) (by omega) (by omega) (by omega) j3 (fun x y hx hy hn => j4 x y hx hy (by omega)) j5
      refine ⟨⟨by omega, fun j hj => ?_, hb⟩, rfl⟩
      have hbi := bind_inv (F := va_up F n (mj_VAL e)) (B := B) (a := l) (b := n) (v := max to 1) (by omega) (by omega) (by omega) (j3 n l (by omega) (by omega)) j (by omega)
      rw [hbi]
      by_cases q : j = n
      · subst q
        rw [va_up_self, va_up_self, Int.toNat_natCast]
        have : mj_rs B j = 0 := mj_sum_zero 6 (fun y hy => by rw [j3 j y (by omega) hy]; exact j4 y j hy (by omega) (Nat.le_refl _))
        omega
      · rw [va_up_ne _ _ q, va_up_ne _ _ q]
        exact j2 j (by omega)
theorem tJ_ring {L : Nat} {t : TS} {to : Int} {dg : Nat} (hi : tI L t) (hj0 : tJ t) (hdg : dg < 10) (hz : (tRing dg to t).1 = -1) : tJ (tRing dg to t).2 ∧ tRm (tRing dg to t).2 = tRm t := by
  obtain ⟨n, K, F, B, RA, RB, BA, br, la, rm, at_⟩ := t
  obtain ⟨h1, h2, ⟨l, rfl, hl⟩, h4, -⟩ := hi
  obtain ⟨j1, j2, j3, j4, j5⟩ := hj0
  by_cases q1 : RA dg = -1
  · rw [show tRing dg to (n, K, F, B, RA, RB, BA, br, (l : Int), rm, at_) = (-1, (n, K, F, B, va_up RA dg (l : Int), va_up RB dg to, BA, br, (l : Int), rm, at_ + 1)) from if_pos q1]
    exact ⟨⟨j1, j2, j3, j4, j5⟩, rfl⟩
  · rcases h4 dg hdg with w | ⟨⟨s, w1, w2⟩, w3⟩
    · exact absurd w q1
    · by_cases q2 : (RB dg ≠ 0 ∧ to ≠ 0 ∧ RB dg ≠ to) ∨ RA dg = (l : Int) ∨ 0 < B ((RA dg).toNat * 6 + (l : Int).toNat)
      · rw [show tRing dg to (n, K, F, B, RA, RB, BA, br, (l : Int), rm, at_) = (-7, (n, K, F, B, RA, RB, BA, br, (l : Int), rm, at_)) by unfold tRing; simp only []; rw [if_neg q1, if_pos q2]] at hz
        exact absurd hz (by simp)
      · have hA : tRing dg to (n, K, F, B, RA, RB, BA, br, (l : Int), rm, at_) = (-1, (n, K, mbind F B s l (max 1 (max (RB dg) to)), bset B s l (max 1 (max (RB dg) to)), va_up RA dg (-1), RB, BA, br, (l : Int), rm, at_ + 1)) := by
          unfold tRing
          simp only []
          rw [if_neg q1, if_neg q2, w1]
          rfl
        rw [hA]
        have hsl : s ≠ l := fun e => q2 (Or.inr (Or.inl (by rw [w1, e])))
        have hb := bset_J (B := B) (a := s) (b := l) (n := n) (v := max 1 (max (RB dg) to)) w2 hl hsl h2 j3 j4 j5
        refine ⟨⟨j1, fun j hj => ?_, hb⟩, rfl⟩
        rw [bind_inv (by omega) (by omega) hsl (j3 l s (by omega) (by omega)) j (by omega)]
        exact j2 j hj
theorem tJ_close {t : TS} (hj0 : tJ t) (hz : (tClose t).1 = -1) : tJ (tClose t).2 ∧ tRm (tClose t).2 = false := by
  obtain ⟨n, K, F, B, RA, RB, BA, br, la, rm, at_⟩ := t
  obtain ⟨j1, j2⟩ := hj0
  by_cases q : br = 0
  · rw [show tClose (n, K, F, B, RA, RB, BA, br, la, rm, at_) = (-2, (n, K, F, B, RA, RB, BA, br, la, rm, at_)) from if_pos q] at hz
    exact absurd hz (by simp)
  · rw [show tClose (n, K, F, B, RA, RB, BA, br, la, rm, at_) = (-1, (n, K, F, B, RA, RB, BA, br - 1, BA (br - 1), false, at_ + 1)) from if_neg q]
    exact ⟨⟨by omega, j2⟩, rfl⟩
section PS3
variable {Γ : mj_G} {d L : Nat} {S0 S : mj_S} {C : Nat → Int} {wr am hy sr tr rs fo : Int} {Q : Int → mj_S → Prop}
/-- a bond's sign -/
theorem ps_bond {sg : Int} {k ph : Nat} {P : mj_O → mj_S → Prop} {vd vn : Int} {x6 x7 x8 x9 x10 x11 x12 : Value} (g6 : c1 x6) (g7 : c1 x7) (g8 : c1 x8) (g9 : c1 x9) (g10 : c1 x10) (g11 : c1 x11) (g12 : c1 x12) (hw : S.2.1 = 65) (hst : mo_st S 0 L wr am hy sr tr rs fo sg) (hl : mj_lc S C) (hL : L ≤ 60) (hk : k < L) (hph : 1 ≤ ph ∧ ph ≤ 3) (hb : tbd (C k) ≠ 0) (hd : 2 ≤ d)
    (H : ∀ y6 y7 y8, c1 y6 → c1 y7 → c1 y8 → mj_Ok Γ d M_Mo_parse 0 0 33 [.ref 40, .int (iZ vd), .int (iZ ph), .int (iZ vn), .int (iZ (tbd (C k))), .int (iZ ((k + 1 : Nat) : Int)), y6, y7, y8, x9, x10, x11, x12] [] S P) :
    mj_Ok Γ d M_Mo_parse 0 0 33 [.ref 40, .int (iZ vd), .int (iZ ph), .int (iZ vn), .int (iZ 0), .int (iZ k), x6, x7, x8, x9, x10, x11, x12] [] S P := by
  have hbr := tbd_r (C k)
  have hel := ln_el_no (L := L) (C := C) hk (Or.inr (Or.inr (Or.inr hb)))
  refine ps_head g6 g7 g8 g9 g10 g11 g12 hw hst hl hL hk hd ?_
  rw [hel]
  refine mj_iload d_Mo_parse_95 rfl ?_
  refine mz_if_lt 223 d_Mo_parse_97 (by decide) (by omega) (fun c_97 => ?_) (fun c_97 => ?_)
  · refine mj_iload d_Mo_parse_223 rfl ?_
    refine mz_if_le 247 d_Mo_parse_225 (by decide) (by omega) (fun c_225 => ?_) (fun c_225 => ?_)
    · omega
    · refine mj_iload d_Mo_parse_228 rfl ?_
      refine mz_if_ne 247 d_Mo_parse_230 (by decide) (by omega) (fun c_230 => ?_) (fun c_230 => ?_)
      · omega
      · refine mj_iload_n d_Mo_parse_233 rfl ?_
        refine mz_if_le 247 d_Mo_parse_234 (by decide) (by omega) (fun c_234 => ?_) (fun c_234 => ?_)
        · omega
        · refine mj_iload d_Mo_parse_237 rfl ?_
          refine mz_ist4 d_Mo_parse_239 (by unfold mj_c1; simp only [List.all_cons, g9, g10, g11, g12]; rfl) ?_
          refine mz_inc5 d_Mo_parse_241 (by unfold mj_c1; simp only [List.all_cons, g9, g10, g11, g12]; rfl) ?_
          refine mj_goto 552 d_Mo_parse_244 (by decide) ?_
          refine mj_goto 33 d_Mo_parse_552 (by decide) ?_
          have w := H (.int (iZ (C k))) (.int (iZ (-1))) (.int (iZ (tbd (C k)))) rfl rfl rfl
          rw [show ((k + 1 : Nat) : Int) = (k : Int) + 1 by omega] at w
          exact w
  · omega
/-- behind a bond's sign or none -/
theorem ps_two {n br at_ ph : Nat} {K F B RA RB BA : Nat → Int} {l : Nat} {rm : Bool} {x6 x7 x8 x9 x10 x11 x12 : Value} (g6 : c1 x6) (g7 : c1 x7) (g8 : c1 x8) (g9 : c1 x9) (g10 : c1 x10) (g11 : c1 x11) (g12 : c1 x12) (hw0 : S0.2.1 = 65) (hlc : mj_lc S0 C) (hL : L ≤ 60) (hph : 1 ≤ ph ∧ ph ≤ 3) (hn : n ≤ 6) (hl : l < n) (hat : at_ ≤ L) (hbr : br ≤ 6) (hRA : ∀ j, j < 10 → RA j = -1 ∨ (0 ≤ RA j ∧ RA j < n ∧ 0 ≤ RB j ∧ RB j ≤ 3)) (hBr : ∀ j, j < 36 → 0 ≤ B j ∧ B j ≤ 3)
    (hp : ph = 3 ∨ (at_ < L ∧ ln_at L C at_ ≠ 40 ∧ ln_at L C at_ ≠ 41)) (h : psI S0 S L wr am hy sr tr rs fo (n, K, F, B, RA, RB, BA, br, (l : Int), rm, at_)) (hd : 2 ≤ d)
    (Hf : (tOne L C ph (tTold L C (n, K, F, B, RA, RB, BA, br, (l : Int), rm, at_)) (tBond L C (n, K, F, B, RA, RB, BA, br, (l : Int), rm, at_))).1 ≠ -1 → ∀ S', psE S0 S' L (tAt (tOne L C ph (tTold L C (n, K, F, B, RA, RB, BA, br, (l : Int), rm, at_)) (tBond L C (n, K, F, B, RA, RB, BA, br, (l : Int), rm, at_))).2 : Nat) am hy sr tr rs fo → Q (tOne L C ph (tTold L C (n, K, F, B, RA, RB, BA, br, (l : Int), rm, at_)) (tBond L C (n, K, F, B, RA, RB, BA, br, (l : Int), rm, at_))).1 S')
    (Hok : (tOne L C ph (tTold L C (n, K, F, B, RA, RB, BA, br, (l : Int), rm, at_)) (tBond L C (n, K, F, B, RA, RB, BA, br, (l : Int), rm, at_))).1 = -1 → ∀ S' y6 y7 y8 y9 y10 y11 y12, c1 y6 → c1 y7 → c1 y8 → c1 y9 → c1 y10 → c1 y11 → c1 y12 → psI S0 S' L wr am hy sr tr rs fo (tOne L C ph (tTold L C (n, K, F, B, RA, RB, BA, br, (l : Int), rm, at_)) (tBond L C (n, K, F, B, RA, RB, BA, br, (l : Int), rm, at_))).2 → mj_Ok Γ d M_Mo_parse 0 0 33 (psF (tOne L C ph (tTold L C (n, K, F, B, RA, RB, BA, br, (l : Int), rm, at_)) (tBond L C (n, K, F, B, RA, RB, BA, br, (l : Int), rm, at_))).2 1 0 y6 y7 y8 y9 y10 y11 y12) [] S' (mj_I Q)) :
    mj_Ok Γ d M_Mo_parse 0 0 33 [.ref 40, .int (iZ br), .int (iZ ph), .int (iZ l), .int (iZ 0), .int (iZ at_), x6, x7, x8, x9, x10, x11, x12] [] S (mj_I Q) := by
  have h0 := h
  obtain ⟨f1, hst, -⟩ := id h
  have hw := f1.w.trans hw0
  have hlS : mj_lc S C := ⟨f1.at hlc.1 (by simp), hlc.2⟩
  have eT : tTold L C (n, K, F, B, RA, RB, BA, br, (l : Int), rm, at_) = tbd (ln_at L C at_) := rfl
  have eB : tBond L C (n, K, F, B, RA, RB, BA, br, (l : Int), rm, at_) = (n, K, F, B, RA, RB, BA, br, (l : Int), rm, if tbd (ln_at L C at_) = 0 then at_ else at_ + 1) := rfl
  rw [eT, eB] at Hf Hok
  have hbd := tbd_r (ln_at L C at_)
  by_cases q : tbd (ln_at L C at_) = 0
  · rw [q, if_pos rfl] at Hf Hok
    exact ps_one g6 g7 g8 g9 g10 g11 g12 hw0 hlc hL (by omega) (by omega) hn (by omega) (by omega) hat (by omega) hRA hBr (Or.inr (Or.inr q)) (by omega) (by omega) h0 hd Hf Hok
  · have hkL : at_ < L := by
      by_cases z : at_ < L
      · exact z
      · exfalso
        apply q
        have : ln_at L C (at_ : Int) = 32 := by unfold ln_at; rw [if_neg (by omega)]
        rw [this]
        decide
    have hln : ln_at L C (at_ : Int) = C at_ := by unfold ln_at; rw [if_pos (by omega)]; rfl
    rw [if_neg q] at Hf Hok
    rw [hln] at q Hf Hok hbd
    refine ps_bond g6 g7 g8 g9 g10 g11 g12 hw hst hlS hL hkL hph q hd (fun y6 y7 y8 k6 k7 k8 => ?_)
    exact ps_one k6 k7 k8 g9 g10 g11 g12 hw0 hlc hL hbd (by omega) hn (by omega) (by omega) (by omega) (by omega) hRA hBr (Or.inl q) (Or.inl q) (Or.inr (Or.inl q)) h0 hd Hf Hok
theorem tI_RA {L n br at_ : Nat} {K F B RA RB BA : Nat → Int} {la : Int} {rm : Bool} (hi : tI L (n, K, F, B, RA, RB, BA, br, la, rm, at_)) : ∀ j, j < 10 → RA j = -1 ∨ (0 ≤ RA j ∧ RA j < n ∧ 0 ≤ RB j ∧ RB j ≤ 3) := by
  obtain ⟨-, -, -, h4, -⟩ := hi
  intro j hj
  rcases h4 j hj with w | ⟨⟨s, w1, w2⟩, w3⟩
  · exact Or.inl w
  · exact Or.inr ⟨by omega, by omega, w3⟩
/-- a part of the text -/
theorem ps_part {t : TS} {x6 x7 x8 x9 x10 x11 x12 : Value} (g6 : c1 x6) (g7 : c1 x7) (g8 : c1 x8) (g9 : c1 x9) (g10 : c1 x10) (g11 : c1 x11) (g12 : c1 x12) (hw0 : S0.2.1 = 65) (hlc : mj_lc S0 C) (hL : L ≤ 60) (hi : tI L t) (hj : tJ t) (ha : tAt t < L) (h : psI S0 S L wr am hy sr tr rs fo t) (hd : 2 ≤ d)
    (Hf : (tPart L C t).1 ≠ -1 → ∀ S', psE S0 S' L (tAt (tPart L C t).2 : Nat) am hy sr tr rs fo → Q (tPart L C t).1 S')
    (Hok : (tPart L C t).1 = -1 → tJ (tPart L C t).2 → ∀ S' y6 y7 y8 y9 y10 y11 y12, c1 y6 → c1 y7 → c1 y8 → c1 y9 → c1 y10 → c1 y11 → c1 y12 → psI S0 S' L wr am hy sr tr rs fo (tPart L C t).2 → mj_Ok Γ d M_Mo_parse 0 0 33 (psF (tPart L C t).2 (if tRm (tPart L C t).2 then 1 else 2) 0 y6 y7 y8 y9 y10 y11 y12) [] S' (mj_I Q)) :
    mj_Ok Γ d M_Mo_parse 0 0 33 (psF t (if tRm t then 1 else 2) 0 x6 x7 x8 x9 x10 x11 x12) [] S (mj_I Q) := by
  have hi0 := hi
  have hj0 := hj
  have h0 := h
  obtain ⟨n, K, F, B, RA, RB, BA, br, la, rm, at_⟩ := t
  obtain ⟨i1, i2, ⟨l, rfl, hl⟩, i4, i5, i6, i7, i8, i9, i10⟩ := hi
  obtain ⟨j1, j2⟩ := hj
  have hRA := tI_RA hi0
  have ha2 : at_ < L := ha
  obtain ⟨f1, hst, ⟨K', h3, h3'⟩, ⟨B', h4, h4'⟩, ⟨PL, h5, h5'⟩, ⟨RA', h6, h6'⟩, RB', h7, h7'⟩ := h
  have h1 : S.1 40 = _ := hst
  have hw := f1.w.trans hw0
  have hlS : mj_lc S C := ⟨f1.at hlc.1 (by simp), hlc.2⟩
  have hln : ln_at L C (at_ : Int) = C at_ := by unfold ln_at; rw [if_pos (by omega)]; rfl
  have hcr := hlc.2 at_
  obtain ⟨ph, hph⟩ : ∃ ph : Nat, ph = if rm then 1 else 2 := ⟨_, rfl⟩
  have hph2 : ph = 1 ∨ ph = 2 := by rw [hph]; cases rm <;> simp
  have hph1 : ph = 1 ↔ rm = true := by rw [hph]; cases rm <;> simp
  show mj_Ok Γ d M_Mo_parse 0 0 33 [.ref 40, .int (iZ br), .int (iZ ((if rm then 1 else 2 : Nat) : Int)), .int (iZ l), .int (iZ 0), .int (iZ at_), x6, x7, x8, x9, x10, x11, x12] [] S (mj_I Q)
  rw [← hph]
  by_cases q41 : C at_ = 41
  · -- a branch's end
    have hT : tPart L C (n, K, F, B, RA, RB, BA, br, (l : Int), rm, at_) = tClose (n, K, F, B, RA, RB, BA, br, (l : Int), rm, at_) := by
      unfold tPart
      rw [if_pos (show ln_at L C (tAt (n, K, F, B, RA, RB, BA, br, (l : Int), rm, at_)) = 41 from hln.trans q41)]
    rw [hT] at Hf Hok
    have hel := ln_el_no (L := L) (C := C) ha2 (Or.inr (Or.inl q41))
    have hbd := tbd_dig (c := C at_) (Or.inr (Or.inr q41))
    refine ps_head g6 g7 g8 g9 g10 g11 g12 hw hst hlS hL ha2 hd ?_
    rw [hel, hbd]
    refine mj_iload d_Mo_parse_95 rfl ?_
    refine mz_if_lt 223 d_Mo_parse_97 (by decide) (by omega) (fun c_97 => ?_) (fun c_97 => ?_)
    · refine mj_iload d_Mo_parse_223 rfl ?_
      refine mz_if_le 247 d_Mo_parse_225 (by decide) (by omega) (fun c_225 => ?_) (fun c_225 => ?_)
      · refine mj_iload d_Mo_parse_247 rfl ?_
        refine mz_bipush d_Mo_parse_249 (by decide) ?_
        refine mz_icmp_lt 459 d_Mo_parse_251 (by decide) (by omega) (by omega) (fun c_251 => ?_) (fun c_251 => ?_)
        · refine mj_iload d_Mo_parse_459 rfl ?_
          refine mz_bipush d_Mo_parse_461 (by decide) ?_
          refine mz_icmp_ne 499 d_Mo_parse_463 (by decide) (by omega) (by omega) (fun c_463 => ?_) (fun c_463 => ?_)
          · refine mj_iload d_Mo_parse_499 rfl ?_
            refine mz_bipush d_Mo_parse_501 (by decide) ?_
            refine mz_icmp_ne 543 d_Mo_parse_503 (by decide) (by omega) (by omega) (fun c_503 => ?_) (fun c_503 => ?_)
            · omega
            · refine mj_iload d_Mo_parse_506 rfl ?_
              refine mz_if_ne 543 d_Mo_parse_508 (by decide) (by omega) (fun c_508 => ?_) (fun c_508 => ?_)
              · omega
              · refine mj_iload_n d_Mo_parse_511 rfl ?_
                refine mz_if_le 543 d_Mo_parse_512 (by decide) (by omega) (fun c_512 => ?_) (fun c_512 => ?_)
                · have b0 : br = 0 := by omega
                  have hC : tClose (n, K, F, B, RA, RB, BA, br, (l : Int), rm, at_) = (-2, (n, K, F, B, RA, RB, BA, br, (l : Int), rm, at_)) := if_pos b0
                  rw [hC] at Hf
                  exact ps_sign hw0 h0 (by omega) (fun S' hE => Hf (by simp) S' hE)
                · have b0 : ¬ br = 0 := by omega
                  have hC : tClose (n, K, F, B, RA, RB, BA, br, (l : Int), rm, at_) = (-1, (n, K, F, B, RA, RB, BA, br - 1, BA (br - 1), false, at_ + 1)) := if_neg b0
                  have hjc := tJ_close hj0 (by rw [hC])
                  rw [hC] at Hok hjc
                  have t525 : mj_Ok Γ d M_Mo_parse 0 0 525 [.ref 40, .int (iZ br), .int (iZ ph), .int (iZ l), .int (iZ 0), .int (iZ at_), .int (iZ (C at_)), .int (iZ (-1)), .int (iZ 0), x9, x10, x11, x12] [] S (mj_I Q) := by
                    refine mz_inc1 d_Mo_parse_525 (by unfold mj_c1; simp only [List.all_cons, g9, g10, g11, g12]; rfl) ?_
                    refine mj_aload_n d_Mo_parse_528 rfl ?_
                    refine mj_get (ci := 9) (j := 24) d_Mo_parse_529 rfl w_Mo_58 (by decide) (by omega) (by assumption) rfl ?_
                    refine mj_iload_n d_Mo_parse_532 rfl ?_
                    refine mz_iald (j := br - 1) d_Mo_parse_533 (by omega) (by assumption) (by omega) (by omega) ?_
                    rw [h5' (br - 1) (by omega)]
                    refine mz_ist3 d_Mo_parse_534 (by unfold mj_c1; simp only [List.all_cons, g9, g10, g11, g12]; rfl) ?_
                    refine mz_iconst d_Mo_parse_535 ?_
                    refine mz_ist2 d_Mo_parse_536 (by unfold mj_c1; simp only [List.all_cons, g9, g10, g11, g12]; rfl) ?_
                    refine mz_inc5 d_Mo_parse_537 (by unfold mj_c1; simp only [List.all_cons, g9, g10, g11, g12]; rfl) ?_
                    refine mj_goto 552 d_Mo_parse_540 (by decide) ?_
                    refine mj_goto 33 d_Mo_parse_552 (by decide) ?_
                    have w := Hok rfl hjc.1 S (.int (iZ (C at_))) (.int (iZ (-1))) (.int (iZ 0)) _ _ _ _ rfl rfl rfl g9 g10 g11 g12 ⟨f1, hst, ⟨K', h3, h3'⟩, ⟨B', h4, h4'⟩, ⟨PL, h5, fun j hj => h5' j (by omega)⟩, ⟨RA', h6, h6'⟩, RB', h7, h7'⟩
                    have w : mj_Ok Γ d M_Mo_parse 0 0 33 [.ref 40, .int (iZ ((br - 1 : Nat) : Int)), .int (iZ 2), .int (iZ (BA (br - 1))), .int (iZ 0), .int (iZ ((at_ + 1 : Nat) : Int)), .int (iZ (C at_)), .int (iZ (-1)), .int (iZ 0), x9, x10, x11, x12] [] S (mj_I Q) := w
                    rw [show ((br - 1 : Nat) : Int) = (br : Int) + -1 by omega, show ((at_ + 1 : Nat) : Int) = (at_ : Int) + 1 by omega] at w
                    exact w
                  refine mj_iload_n d_Mo_parse_515 rfl ?_
                  refine mz_iconst d_Mo_parse_516 ?_
                  refine mz_icmp_eq 525 d_Mo_parse_517 (by decide) (by omega) (by omega) (fun c_517 => ?_) (fun c_517 => ?_)
                  · exact t525
                  · refine mj_iload_n d_Mo_parse_520 rfl ?_
                    refine mz_iconst d_Mo_parse_521 ?_
                    refine mz_icmp_ne 543 d_Mo_parse_522 (by decide) (by omega) (by omega) (fun c_522 => ?_) (fun c_522 => ?_)
                    · omega
                    · exact t525
          · omega
        · omega
      · omega
    · omega
  · by_cases q40 : C at_ = 40
    · -- a branch's begin
      have hT : tPart L C (n, K, F, B, RA, RB, BA, br, (l : Int), rm, at_) = tOpen L C (n, K, F, B, RA, RB, BA, br, (l : Int), rm, at_) := by
        unfold tPart
        rw [if_neg (show ¬ ln_at L C (tAt (n, K, F, B, RA, RB, BA, br, (l : Int), rm, at_)) = 41 from fun z => q41 (hln.symm.trans z)), if_pos (show ln_at L C (tAt (n, K, F, B, RA, RB, BA, br, (l : Int), rm, at_)) = 40 from hln.trans q40)]
      have hPu : tPush (n, K, F, B, RA, RB, BA, br, (l : Int), rm, at_) = (n, K, F, B, RA, RB, va_up BA br (l : Int), br + 1, (l : Int), rm, at_ + 1) := by
        unfold tPush
        simp only []
        rw [if_pos (by omega), if_pos (by omega)]
      have hPt := tI_push hi0 ha
      unfold tOpen at hT
      rw [hPu] at hT hPt
      have hO : tOne L C 3 (tTold L C (n, K, F, B, RA, RB, va_up BA br (l : Int), br + 1, (l : Int), rm, at_ + 1)) (tBond L C (n, K, F, B, RA, RB, va_up BA br (l : Int), br + 1, (l : Int), rm, at_ + 1)) = tPart L C (n, K, F, B, RA, RB, BA, br, (l : Int), rm, at_) := by
        rw [hT]
        unfold tOne
        rw [if_neg (by omega)]
      have hel := ln_el_no (L := L) (C := C) ha2 (Or.inl q40)
      have hbd := tbd_dig (c := C at_) (Or.inr (Or.inl q40))
      refine ps_head g6 g7 g8 g9 g10 g11 g12 hw hst hlS hL ha2 hd ?_
      rw [hel, hbd]
      have t481 : mj_Ok Γ d M_Mo_parse 0 0 481 [.ref 40, .int (iZ br), .int (iZ ph), .int (iZ l), .int (iZ 0), .int (iZ at_), .int (iZ (C at_)), .int (iZ (-1)), .int (iZ 0), x9, x10, x11, x12] [] S (mj_I Q) := by
        refine mj_aload_n d_Mo_parse_481 rfl ?_
        refine mj_get (ci := 9) (j := 24) d_Mo_parse_482 rfl w_Mo_58 (by decide) (by omega) (by assumption) rfl ?_
        refine mj_iload_n d_Mo_parse_485 rfl ?_
        refine mj_iload_n d_Mo_parse_486 rfl ?_
        refine mz_iast (j := br) d_Mo_parse_487 (by omega) (by assumption) (by omega) (by omega) (fun S_487 w_487 e_487 f_487 => ?_)
        refine mz_inc1 d_Mo_parse_488 (by unfold mj_c1; simp only [List.all_cons, g9, g10, g11, g12]; rfl) ?_
        refine mz_iconst d_Mo_parse_491 ?_
        refine mz_ist2 d_Mo_parse_492 (by unfold mj_c1; simp only [List.all_cons, g9, g10, g11, g12]; rfl) ?_
        refine mz_inc5 d_Mo_parse_493 (by unfold mj_c1; simp only [List.all_cons, g9, g10, g11, g12]; rfl) ?_
        refine mj_goto 552 d_Mo_parse_496 (by decide) ?_
        refine mj_goto 33 d_Mo_parse_552 (by decide) ?_
        have w := ps_two (Γ := Γ) (d := d) (Q := Q) (S0 := S0) (S := S_487) (C := C) (L := L) (wr := wr) (am := am) (hy := hy) (sr := sr) (tr := tr) (rs := rs) (fo := fo) (n := n) (br := br + 1) (at_ := at_ + 1) (ph := 3) (K := K) (F := F) (B := B) (RA := RA) (RB := RB) (BA := va_up BA br (l : Int)) (l := l) (rm := rm) (x6 := .int (iZ (C at_))) (x7 := .int (iZ (-1))) (x8 := .int (iZ 0)) rfl rfl rfl g9 g10 g11 g12 hw0 hlc hL (by omega) i2 hl (by omega) (by omega) hRA i9 (Or.inl rfl) ⟨f1.tr f_487 (by simp) (by simp), f_487.at h1 (by simp), ⟨K', f_487.at h3 (by simp), h3'⟩, ⟨B', f_487.at h4 (by simp), h4'⟩, ⟨_, e_487, fun j hj => by
            by_cases e : j = br
            · subst e; rw [va_up_self, va_up_self]
            · rw [va_up_ne _ _ e, va_up_ne _ _ e]; exact h5' j (by omega)⟩, ⟨RA', f_487.at h6 (by simp), h6'⟩, RB', f_487.at h7 (by simp), h7'⟩ hd (by rw [hO]; exact Hf) (by
            rw [hO]
            intro hz S' y6 y7 y8 y9 y10 y11 y12 k6 k7 k8 k9 k10 k11 k12 hps
            have hbo := tI_bond (C := C) hPt.1
            have hz2 : (tAtom L C (tTold L C (n, K, F, B, RA, RB, va_up BA br (l : Int), br + 1, (l : Int), rm, at_ + 1)) (tBond L C (n, K, F, B, RA, RB, va_up BA br (l : Int), br + 1, (l : Int), rm, at_ + 1))).1 = -1 := by rw [← hT]; exact hz
            have hja := tJ_atom hbo.1 (fun n1 K1 F1 B1 RA1 RB1 BA1 br1 la1 rm1 at1 e => by
              injection e with e1 e
              injection e with e2 e
              injection e with e3 e
              injection e with e4 e
              injection e with e5 e
              injection e with e6 e
              injection e with e7 e
              injection e with e8 e
              subst e1 e2 e3 e4 e8
              exact ⟨j1, j2⟩) hz2
            rw [← hT] at hja
            have w := Hok hz hja.1 S' y6 y7 y8 y9 y10 y11 y12 k6 k7 k8 k9 k10 k11 k12 hps
            rw [hja.2] at w
            exact w)
        rw [show ((br + 1 : Nat) : Int) = (br : Int) + 1 by omega, show ((at_ + 1 : Nat) : Int) = (at_ : Int) + 1 by omega] at w
        exact w
      refine mj_iload d_Mo_parse_95 rfl ?_
      refine mz_if_lt 223 d_Mo_parse_97 (by decide) (by omega) (fun c_97 => ?_) (fun c_97 => ?_)
      · refine mj_iload d_Mo_parse_223 rfl ?_
        refine mz_if_le 247 d_Mo_parse_225 (by decide) (by omega) (fun c_225 => ?_) (fun c_225 => ?_)
        · refine mj_iload d_Mo_parse_247 rfl ?_
          refine mz_bipush d_Mo_parse_249 (by decide) ?_
          refine mz_icmp_lt 459 d_Mo_parse_251 (by decide) (by omega) (by omega) (fun c_251 => ?_) (fun c_251 => ?_)
          · refine mj_iload d_Mo_parse_459 rfl ?_
            refine mz_bipush d_Mo_parse_461 (by decide) ?_
            refine mz_icmp_ne 499 d_Mo_parse_463 (by decide) (by omega) (by omega) (fun c_463 => ?_) (fun c_463 => ?_)
            · omega
            · refine mj_iload d_Mo_parse_466 rfl ?_
              refine mz_if_ne 499 d_Mo_parse_468 (by decide) (by omega) (fun c_468 => ?_) (fun c_468 => ?_)
              · omega
              · refine mj_iload_n d_Mo_parse_471 rfl ?_
                refine mz_iconst d_Mo_parse_472 ?_
                refine mz_icmp_eq 481 d_Mo_parse_473 (by decide) (by omega) (by omega) (fun c_473 => ?_) (fun c_473 => ?_)
                · exact t481
                · refine mj_iload_n d_Mo_parse_476 rfl ?_
                  refine mz_iconst d_Mo_parse_477 ?_
                  refine mz_icmp_ne 499 d_Mo_parse_478 (by decide) (by omega) (by omega) (fun c_478 => ?_) (fun c_478 => ?_)
                  · omega
                  · exact t481
          · omega
        · omega
      · omega
    · have hO : tOne L C ph (tTold L C (n, K, F, B, RA, RB, BA, br, (l : Int), rm, at_)) (tBond L C (n, K, F, B, RA, RB, BA, br, (l : Int), rm, at_)) = tPart L C (n, K, F, B, RA, RB, BA, br, (l : Int), rm, at_) := by
        unfold tPart tOne
        rw [if_neg (show ¬ ln_at L C (tAt (n, K, F, B, RA, RB, BA, br, (l : Int), rm, at_)) = 41 from fun z => q41 (hln.symm.trans z)), if_neg (show ¬ ln_at L C (tAt (n, K, F, B, RA, RB, BA, br, (l : Int), rm, at_)) = 40 from fun z => q40 (hln.symm.trans z))]
        by_cases z : ph = 1 ∧ 49 ≤ ln_at L C (tAt (tBond L C (n, K, F, B, RA, RB, BA, br, (l : Int), rm, at_))) ∧ ln_at L C (tAt (tBond L C (n, K, F, B, RA, RB, BA, br, (l : Int), rm, at_))) ≤ 57
        · rw [if_pos z, if_pos ⟨hph1.mp z.1, z.2⟩]
        · rw [if_neg z, if_neg (fun z2 => z ⟨hph1.mpr z2.1, z2.2⟩)]
      refine ps_two g6 g7 g8 g9 g10 g11 g12 hw0 hlc hL (by omega) i2 hl (by omega) (by omega) hRA i9 (Or.inr ⟨ha2, by rw [hln]; exact q40, by rw [hln]; exact q41⟩) h0 hd (by rw [hO]; exact Hf) ?_
      rw [hO]
      intro hz S' y6 y7 y8 y9 y10 y11 y12 k6 k7 k8 k9 k10 k11 k12 hps
      have hbo := tI_bond (C := C) hi0
      have hjb : tJ (tBond L C (n, K, F, B, RA, RB, BA, br, (l : Int), rm, at_)) := ⟨j1, j2⟩
      have hja : tJ (tPart L C (n, K, F, B, RA, RB, BA, br, (l : Int), rm, at_)).2 ∧ tRm (tPart L C (n, K, F, B, RA, RB, BA, br, (l : Int), rm, at_)).2 = true := by
        rw [← hO] at hz ⊢
        unfold tOne at hz ⊢
        by_cases z : ph = 1 ∧ 49 ≤ ln_at L C (tAt (tBond L C (n, K, F, B, RA, RB, BA, br, (l : Int), rm, at_))) ∧ ln_at L C (tAt (tBond L C (n, K, F, B, RA, RB, BA, br, (l : Int), rm, at_))) ≤ 57
        · rw [if_pos z] at hz ⊢
          have w := tJ_ring hbo.1 hjb (by omega) hz
          exact ⟨w.1, w.2.trans (hph1.mp z.1)⟩
        · rw [if_neg z] at hz ⊢
          exact tJ_atom hbo.1 (fun n1 K1 F1 B1 RA1 RB1 BA1 br1 la1 rm1 at1 e => by
              injection e with e1 e
              injection e with e2 e
              injection e with e3 e
              injection e with e4 e
              injection e with e5 e
              injection e with e6 e
              injection e with e7 e
              injection e with e8 e
              subst e1 e2 e3 e4 e8
              exact ⟨by omega, j2⟩) hz
      have w := Hok hz hja.1 S' y6 y7 y8 y9 y10 y11 y12 k6 k7 k8 k9 k10 k11 k12 hps
      rw [hja.2] at w
      exact w
end PS3
