/-! the reference: going through a molecule -/
def goI (n : Nat) (g : GS) (RG LA : Nat → Int) (dg : Nat) : Prop :=
  (∀ x y, x < n → y < n → RG (x * 6 + y) = RG (y * 6 + x)) ∧ (∀ x y, x < n → y < n → 0 ≤ RG (x * 6 + y) ∧ RG (x * 6 + y) ≤ dg) ∧ g.2.1 = min dg 9 ∧
  (∀ d, 1 ≤ d → d ≤ g.2.1 → ∃ x y : Nat, x < n ∧ y < n ∧ x ≠ y ∧ g.2.2.1 d = x ∧ g.2.2.2 d = y ∧ RG (x * 6 + y) = d ∧ (y : Int) ≤ LA x) ∧
  (∀ x y, x < n → y < n → ∀ d : Nat, 1 ≤ d → d ≤ g.2.1 → RG (x * 6 + y) = d → (g.2.2.1 d = x ∧ g.2.2.2 d = y) ∨ (g.2.2.1 d = y ∧ g.2.2.2 d = x)) ∧
  (∀ j, j < n → g.1 j = -2 → LA j = -1) ∧ (∀ b x : Nat, b < n → x < n → g.1 b = x → (b : Int) ≤ LA x) ∧ ∀ j, j < n → -1 ≤ LA j
theorem goI.up {n : Nat} {g : GS} {RG LA : Nat → Int} {dg a : Nat} {v : Int} (h : goI n g RG LA dg) (ha : g.1 a ≠ -2) (hv : LA a ≤ v) (hv1 : -1 ≤ v) : goI n g RG (va_up LA a v) dg := by
  obtain ⟨h1, h2, h3, h4, h5, h6, h7, h8⟩ := h
  have le : ∀ x, LA x ≤ va_up LA a v x := by
    intro x
    by_cases e : x = a
    · subst e; rw [va_up_self]; exact hv
    · rw [va_up_ne _ _ e]; exact Int.le_refl _
  refine ⟨h1, h2, h3, fun d d1 d2 => ?_, h5, fun j hj hj2 => ?_, fun b x hb hx hbx => Int.le_trans (h7 b x hb hx hbx) (le x), fun j hj => Int.le_trans (h8 j hj) (le j)⟩
  · obtain ⟨x, y, q1, q2, q3, q4, q5, q6, q7⟩ := h4 d d1 d2
    exact ⟨x, y, q1, q2, q3, q4, q5, q6, Int.le_trans q7 (le x)⟩
  · rw [va_up_ne _ _ (fun e => ha (by rw [← e]; exact hj2))]
    exact h6 j hj hj2
theorem goI.down {n : Nat} {g : GS} {RG LA : Nat → Int} {dg a b : Nat} (h : goI n g RG LA dg) (hb : (b : Int) ≤ LA a) : goI n (va_up g.1 b (a : Int), g.2) RG LA dg := by
  obtain ⟨h1, h2, h3, h4, h5, h6, h7, h8⟩ := h
  refine ⟨h1, h2, h3, h4, h5, fun j hj hj2 => ?_, fun b' x hb' hx hbx => ?_, h8⟩
  · have hj2 : va_up g.1 b (a : Int) j = -2 := hj2
    by_cases e : j = b
    · subst e; rw [va_up_self] at hj2; omega
    · rw [va_up_ne _ _ e] at hj2; exact h6 j hj hj2
  · have hbx : va_up g.1 b (a : Int) b' = x := hbx
    by_cases e : b' = b
    · subst e
      rw [va_up_self] at hbx
      have : a = x := by omega
      subst this
      exact hb
    · rw [va_up_ne _ _ e] at hbx; exact h7 b' x hb' hx hbx
/-- a ring that is met for the first time -/
theorem goI.ring {n : Nat} {g : GS} {RG LA : Nat → Int} {dg a b : Nat} (h : goI n g RG LA dg) (hn : n ≤ 6) (ha : a < n) (hb : b < n) (hab : a ≠ b) (h0 : RG (a * 6 + b) = 0) (hL : (b : Int) ≤ LA a) : goI n (g.1, mtR a b g.2.1 g.2.2.1 g.2.2.2) (va_up (va_up RG (a * 6 + b) ((dg : Int) + 1)) (b * 6 + a) ((dg : Int) + 1)) LA (dg + 1) := by
  obtain ⟨h1, h2, h3, h4, h5, h6, h7, h8⟩ := h
  have rg : ∀ x y, x < n → y < n → va_up (va_up RG (a * 6 + b) ((dg : Int) + 1)) (b * 6 + a) ((dg : Int) + 1) (x * 6 + y) = if (x = a ∧ y = b) ∨ (x = b ∧ y = a) then (dg : Int) + 1 else RG (x * 6 + y) := by
    intro x y hx hy
    exact bset_xy (B := RG) (v := (dg : Int) + 1) (by omega) (by omega) (by omega) (by omega)
  have r0 : ∀ x y, x < n → y < n → (x = a ∧ y = b) ∨ (x = b ∧ y = a) → RG (x * 6 + y) = 0 := by
    intro x y hx hy q
    rcases q with ⟨rfl, rfl⟩ | ⟨rfl, rfl⟩
    · exact h0
    · rw [h1 _ _ hx hy]; exact h0
  have hno : ¬ ∃ j, 1 ≤ j ∧ j ≤ g.2.1 ∧ g.2.2.1 j = (b : Int) ∧ g.2.2.2 j = (a : Int) := by
    intro ⟨j, j1, j2, j3, j4⟩
    obtain ⟨x, y, q1, q2, q3, q4, q5, q6, q7⟩ := h4 j j1 j2
    have ex : x = b := by omega
    have ey : y = a := by omega
    rw [ex, ey, r0 b a hb ha (Or.inr ⟨rfl, rfl⟩)] at q6
    omega
  have sym : ∀ x y, x < n → y < n → va_up (va_up RG (a * 6 + b) ((dg : Int) + 1)) (b * 6 + a) ((dg : Int) + 1) (x * 6 + y) = va_up (va_up RG (a * 6 + b) ((dg : Int) + 1)) (b * 6 + a) ((dg : Int) + 1) (y * 6 + x) := by
    intro x y hx hy
    rw [rg x y hx hy, rg y x hy hx, h1 x y hx hy]
    by_cases q : (x = a ∧ y = b) ∨ (x = b ∧ y = a)
    · rw [if_pos q, if_pos (by omega)]
    · rw [if_neg q, if_neg (by omega)]
  have rng : ∀ x y, x < n → y < n → 0 ≤ va_up (va_up RG (a * 6 + b) ((dg : Int) + 1)) (b * 6 + a) ((dg : Int) + 1) (x * 6 + y) ∧ va_up (va_up RG (a * 6 + b) ((dg : Int) + 1)) (b * 6 + a) ((dg : Int) + 1) (x * 6 + y) ≤ ((dg + 1 : Nat) : Int) := by
    intro x y hx hy
    rw [rg x y hx hy]
    have := h2 x y hx hy
    split <;> omega
  by_cases r9 : g.2.1 < 9
  · have hm : mtR (a : Int) (b : Int) g.2.1 g.2.2.1 g.2.2.2 = (g.2.1 + 1, va_up g.2.2.1 (g.2.1 + 1) (a : Int), va_up g.2.2.2 (g.2.1 + 1) (b : Int)) := by
      unfold mtR
      rw [if_neg hno, if_pos r9]
    rw [hm]
    refine ⟨sym, rng, ?_, fun d d1 d2 => ?_, fun x y hx hy d d1 d2 hd => ?_, h6, h7, h8⟩
    · show g.2.1 + 1 = min (dg + 1) 9
      omega
    · have d2 : d ≤ g.2.1 + 1 := d2
      show ∃ x y : Nat, x < n ∧ y < n ∧ x ≠ y ∧ va_up g.2.2.1 (g.2.1 + 1) (a : Int) d = x ∧ va_up g.2.2.2 (g.2.1 + 1) (b : Int) d = y ∧ _
      by_cases e : d = g.2.1 + 1
      · subst e
        refine ⟨a, b, ha, hb, hab, va_up_self _ _ _, va_up_self _ _ _, ?_, hL⟩
        rw [rg a b ha hb, if_pos (Or.inl ⟨rfl, rfl⟩)]
        omega
      · obtain ⟨x, y, q1, q2, q3, q4, q5, q6, q7⟩ := h4 d d1 (by omega)
        refine ⟨x, y, q1, q2, q3, by rw [va_up_ne _ _ e]; exact q4, by rw [va_up_ne _ _ e]; exact q5, ?_, q7⟩
        rw [rg x y q1 q2, if_neg]
        · exact q6
        · intro q
          rw [r0 x y q1 q2 q] at q6
          omega
    · have d2 : d ≤ g.2.1 + 1 := d2
      show (va_up g.2.2.1 (g.2.1 + 1) (a : Int) d = x ∧ va_up g.2.2.2 (g.2.1 + 1) (b : Int) d = y) ∨ (va_up g.2.2.1 (g.2.1 + 1) (a : Int) d = y ∧ va_up g.2.2.2 (g.2.1 + 1) (b : Int) d = x)
      rw [rg x y hx hy] at hd
      by_cases q : (x = a ∧ y = b) ∨ (x = b ∧ y = a)
      · rw [if_pos q] at hd
        have e : d = g.2.1 + 1 := by omega
        subst e
        rw [va_up_self, va_up_self]
        omega
      · rw [if_neg q] at hd
        have hle := (h2 x y hx hy).2
        have e : d ≠ g.2.1 + 1 := by omega
        rw [va_up_ne _ _ e, va_up_ne _ _ e]
        exact h5 x y hx hy d d1 (by omega) hd
  · have hm : mtR (a : Int) (b : Int) g.2.1 g.2.2.1 g.2.2.2 = g.2 := by
      unfold mtR
      rw [if_neg hno, if_neg r9]
    rw [hm]
    refine ⟨sym, rng, ?_, fun d d1 d2 => ?_, fun x y hx hy d d1 d2 hd => ?_, h6, h7, h8⟩
    · show g.2.1 = min (dg + 1) 9
      omega
    · obtain ⟨x, y, q1, q2, q3, q4, q5, q6, q7⟩ := h4 d d1 d2
      refine ⟨x, y, q1, q2, q3, q4, q5, ?_, q7⟩
      rw [rg x y q1 q2, if_neg]
      · exact q6
      · intro q
        rw [r0 x y q1 q2 q] at q6
        omega
    · rw [rg x y hx hy] at hd
      have d2 : d ≤ g.2.1 := d2
      by_cases q : (x = a ∧ y = b) ∨ (x = b ∧ y = a)
      · rw [if_pos q] at hd
        omega
      · rw [if_neg q] at hd
        exact h5 x y hx hy d d1 d2 hd
/-- a ring that was met from the other side -/
theorem goI.known {n : Nat} {g : GS} {RG LA : Nat → Int} {dg a b : Nat} (h : goI n g RG LA dg) (ha : a < n) (hb : b < n) (h0 : RG (a * 6 + b) ≠ 0) (hL : LA a < b) : mtR a b g.2.1 g.2.2.1 g.2.2.2 = g.2 := by
  obtain ⟨h1, h2, h3, h4, h5, -⟩ := h
  have hr := h2 a b ha hb
  unfold mtR
  by_cases q : RG (a * 6 + b) ≤ g.2.1
  · obtain ⟨d, hd⟩ : ∃ d : Nat, RG (a * 6 + b) = d := ⟨(RG (a * 6 + b)).toNat, by omega⟩
    rcases h5 a b ha hb d (by omega) (by omega) hd with ⟨e1, e2⟩ | ⟨e1, e2⟩
    · exfalso
      obtain ⟨x, y, q1, q2, q3, q4, q5, q6, q7⟩ := h4 d (by omega) (by omega)
      have ex : x = a := by omega
      have ey : y = b := by omega
      rw [ex, ey] at q7
      omega
    · rw [if_pos ⟨d, by omega, by omega, e1, e2⟩]
  · have : ¬ g.2.1 < 9 := by omega
    by_cases z : ∃ j, 1 ≤ j ∧ j ≤ g.2.1 ∧ g.2.2.1 j = (b : Int) ∧ g.2.2.2 j = (a : Int)
    · rw [if_pos z]
    · rw [if_neg z, if_neg this]
theorem gtI_keep {n : Nat} {B : Nat → Int} : ∀ (m a : Nat) (bf : Int) (g : GS), g.1 a = -2 → ∀ x, g.1 x ≠ -2 → (gtI n B m a bf g).1 x = g.1 x := by
  intro m
  induction m with
  | zero => intro a bf g _ x _; rfl
  | succ m ih =>
    intro a bf g ha x hx
    rw [gtI]
    have xa : x ≠ a := fun e => hx (by rw [e]; exact ha)
    refine chR_inv (fun _ (g' : GS) => g'.1 x = g.1 x) (N := n) (fun b g' _ hI => ?_) n 0 _ (by omega) (va_up_ne _ _ xa)
    split
    · split
      · rename_i q
        rw [ih b a g' q x (by rw [hI]; exact hx)]
        exact hI
      · split
        · exact hI
        · exact hI
    · exact hI
def goS (n : Nat) (B RG LA : Nat → Int) (dg : Nat) : Prop := (dg : Int) ≤ mj_sum (fun x => LA x + 1) n ∧ (∀ j, j < n → LA j ≤ n) ∧ ∀ x y, x < n → y < n → RG (x * 6 + y) ≠ 0 → 0 < B (x * 6 + y)
theorem goS.r {n : Nat} {B RG LA : Nat → Int} {dg : Nat} (h : goS n B RG LA dg) (hn : n ≤ 6) (h1 : ∀ j, j < n → -1 ≤ LA j) : dg ≤ 1000 := by
  have := mj_sum_r (F := fun x => LA x + 1) (b := 7) (by decide) n (fun j hj => by
    have := h.2.1 j hj
    have := h1 j hj
    show -7 ≤ LA j + 1 ∧ LA j + 1 ≤ 7
    omega)
  have := h.1
  omega
theorem goS.up {n : Nat} {B RG LA : Nat → Int} {dg a : Nat} {v : Int} (h : goS n B RG LA dg) (ha : a < n) (hv : LA a + 1 = v) (hvn : v ≤ n) : goS n B RG (va_up LA a v) dg ∧ goS n B RG (va_up LA a v) (dg + 1) := by
  have e : mj_sum (fun x => va_up LA a v x + 1) n = mj_sum (fun x => LA x + 1) n + (v + 1 - (LA a + 1)) := by
    rw [mj_sum_congr (g := va_up (fun x => LA x + 1) a (v + 1)) n (fun y hy => by
      by_cases q : y = a
      · subst q; rw [va_up_self, va_up_self]
      · rw [va_up_ne _ _ q, va_up_ne _ _ q])]
    exact mj_sum_up n ha
  have le : ∀ j, j < n → va_up LA a v j ≤ n := by
    intro j hj
    by_cases q : j = a
    · subst q; rw [va_up_self]; exact hvn
    · rw [va_up_ne _ _ q]; exact h.2.1 j hj
  have := h.1
  refine ⟨⟨?_, le, h.2.2⟩, ⟨?_, le, h.2.2⟩⟩
  · rw [e]; omega
  · rw [e]; omega
/-- a state of the going: the reference's rows hold what the class's do -/
def goX (S0 S : mj_S) (n : Nat) (g : GS) (RG LA : Nat → Int) : Prop := mj_fr S0 S [58, 59, 62, 63] ∧ (∃ BF, S.1 58 = .inl (0, 6, .inl (mj_z BF)) ∧ ∀ j, j < 6 → BF j = if j < n ∧ g.1 j ≠ -2 then g.1 j else -1) ∧ (∃ IR, S.1 62 = .inl (2, 6, .inl (mj_z IR)) ∧ ∀ j, j < n → IR j = if g.1 j = -2 then 0 else 1) ∧ (∃ RZ, S.1 59 = .inl (0, 36, .inl (mj_z RZ)) ∧ ∀ j, j < 36 → RZ j = RG j) ∧ ∃ LZ, S.1 63 = .inl (0, 6, .inl (mj_z LZ)) ∧ ∀ j, j < n → LZ j = LA j
section GO
variable {Γ : mj_G} {d n i : Nat} {S0 : mj_S} {rf sz wr hy sr tr rs fo sg : Int} {T B : Nat → Int} {Q : mj_S → Prop}
theorem go_lvl (hw0 : S0.2.1 = 65) (hst : mo_st S0 rf sz wr n hy sr tr rs fo sg) (h40 : S0.1 43 = .inl (0, 7500, .inl (mj_z T))) (hi : i < 500) (hn : n ≤ 6) (hT : ∀ x y, x < n → y < n → mo_bd T i x y = B (x * 6 + y)) (hB : ∀ j, j < 36 → 0 ≤ B j ∧ B j ≤ 3) (hd0 : ∀ x, x < n → B (x * 6 + x) = 0) (hs : ∀ x y, x < n → y < n → B (x * 6 + y) = B (y * 6 + x)) (hd : 2 ≤ d) :
    ∀ (m a : Nat) (bf : Int) (g : GS) (RG LA : Nat → Int) (dg : Nat) (S : mj_S) (x4 : Value), c1 x4 → gOK n g → a < n → g.1 a = -2 → mj_cnt g.1 (-2) n ≤ m → (bf = -1 ∨ (0 ≤ bf ∧ bf < n)) → LA a = -1 → goS n B RG LA dg → goX S0 S n (va_up g.1 a bf, g.2) RG LA → goI n (va_up g.1 a bf, g.2) RG LA dg →
    (∀ S' RG' LA' dg' y4, c1 y4 → goX S0 S' n (gtI n B m a bf g) RG' LA' → goI n (gtI n B m a bf g) RG' LA' dg' → goS n B RG' LA' dg' → (∀ x, x < n → g.1 x ≠ -2 → LA' x = LA x) → mj_Ok Γ d M_Mo_go 0 0 67 [.ref 40, .int (iZ i), .int (iZ (dg' : Nat)), .int (iZ bf), y4] [] S' (mj_V Q)) →
    mj_Ok Γ d M_Mo_go 0 0 67 [.ref 40, .int (iZ i), .int (iZ dg), .int (iZ a), x4] [] S (mj_V Q) := by
  intro m
  induction m with
  | zero =>
    intro a bf g RG LA dg S x4 g4 hok ha hga hcnt
    exfalso
    have := mj_cnt_dec (f := g.1) (k := -2) (v := 0) (a := a) (by decide) hga n ha
    omega
  | succ m ih =>
    intro a bf g RG LA dg S x4 g4 hok ha hga hcnt hbf hLA hdg hx hI hc
    rw [gtI] at hc
    obtain ⟨f, hf⟩ : ∃ f : Nat → GS → GS, f = (fun b g => if 0 < B (a * 6 + b) then (if g.1 b = -2 then gtI n B m b a g else if (b : Int) ≠ bf then (g.1, mtR a b g.2.1 g.2.2.1 g.2.2.2) else g) else g) := ⟨_, rfl⟩
    rw [← hf] at hc
    have hcd := mj_cnt_dec (f := g.1) (k := -2) (v := bf) (a := a) (by omega) hga n ha
    have inner : ∀ (q b : Nat) (g1 : GS) (RG LA' : Nat → Int) (dg : Nat) (S : mj_S) (x4 : Value), c1 x4 → b + q = n → chR f q b g1 = chR f n 0 (va_up g.1 a bf, g.2) → gOK n g1 → mj_cnt g1.1 (-2) n ≤ m → g1.1 a = bf → LA' a = (b : Int) - 1 → goX S0 S n g1 RG LA' → goI n g1 RG LA' dg → goS n B RG LA' dg → (∀ x, x < n → g.1 x ≠ -2 → LA' x = LA x ∧ g1.1 x ≠ -2) →
        mj_Ok Γ d M_Mo_go 0 0 67 [.ref 40, .int (iZ i), .int (iZ dg), .int (iZ a), x4] [] S (mj_V Q) := by
      intro q
      induction q with
      | zero =>
        intro b g1 RG LA' dg S x4 g4 hb he hok1 hcnt1 hg1a hLa hx1 hI1 hS1 hkeep
        have : b = n := by omega
        subst this
        have he : g1 = chR f b 0 (va_up g.1 a bf, g.2) := he
        rw [← he] at hc
        obtain ⟨f1, ⟨BF, b1, b2⟩, ⟨IR, i1, i2⟩, ⟨RZ, r1, r2⟩, LZ, l1, l2⟩ := hx1
        have h11 : S.1 40 = _ := f1.at hst (by simp)
        have hw1 := f1.w.trans hw0
        have ela := l2 a ha
        rw [hLa] at ela
        refine mj_iload_n d_Mo_go_67 rfl ?_
        refine mz_if_lt 220 d_Mo_go_68 (by decide) (by omega) (fun c_68 => ?_) (fun c_68 => ?_)
        · omega
        · refine mj_aload_n d_Mo_go_71 rfl ?_
          refine mj_get (ci := 9) (j := 32) d_Mo_go_72 rfl w_Mo_82 (by decide) (by omega) (by assumption) rfl ?_
          refine mj_iload_n d_Mo_go_75 rfl ?_
          refine mj_dup2 d_Mo_go_76 rfl rfl ?_
          refine mz_iald (j := a) d_Mo_go_77 (by omega) (by assumption) (by omega) (by omega) ?_
          rw [ela]
          refine mz_iconst d_Mo_go_78 ?_
          refine mz_iadd d_Mo_go_79 ?_
          refine mz_iast (j := a) d_Mo_go_80 (by omega) (by assumption) (by omega) (by omega) (fun S_80 w_80 e_80 f_80 => ?_)
          have h11 := f_80.at h11 (by simp)
          have b1 := f_80.at b1 (by simp)
          refine mj_aload_n d_Mo_go_81 rfl ?_
          refine mj_get (ci := 9) (j := 32) d_Mo_go_82 rfl w_Mo_82 (by decide) (by omega) (by assumption) rfl ?_
          refine mj_iload_n d_Mo_go_85 rfl ?_
          refine mz_iald (j := a) d_Mo_go_86 (by omega) (by assumption) (by omega) (by omega) ?_
          rw [va_up_self]
          refine mz_ist4 d_Mo_go_87 (by unfold mj_c1; simp only [List.all_cons, g4]; rfl) ?_
          refine mj_iload d_Mo_go_89 rfl ?_
          refine mj_aload_n d_Mo_go_91 rfl ?_
          refine mj_get (ci := 9) (j := 4) d_Mo_go_92 rfl w_Mo_129 (by decide) (by omega) (by assumption) rfl ?_
          refine mz_icmp_lt 108 d_Mo_go_95 (by decide) (by omega) (by omega) (fun c_95 => ?_) (fun c_95 => ?_)
          · omega
          · refine mj_aload_n d_Mo_go_98 rfl ?_
            refine mj_get (ci := 9) (j := 27) d_Mo_go_99 rfl w_Mo_67 (by decide) (by omega) (by assumption) rfl ?_
            refine mj_iload_n d_Mo_go_102 rfl ?_
            refine mz_iald (j := a) d_Mo_go_103 (by omega) (by assumption) (by omega) (by omega) ?_
            rw [b2 a (by omega), if_pos ⟨ha, by rw [hg1a]; omega⟩, hg1a]
            refine mz_ist3 d_Mo_go_104 (rfl) ?_
            refine mj_goto 217 d_Mo_go_105 (by decide) ?_
            refine mj_goto 67 d_Mo_go_217 (by decide) ?_
            refine hc S_80 RG (va_up LA' a (b : Int)) dg _ rfl ⟨f1.tr f_80 (by simp) (by simp), ⟨BF, b1, b2⟩, ⟨IR, f_80.at i1 (by simp), i2⟩, ⟨RZ, f_80.at r1 (by simp), r2⟩, _, e_80, fun j hj => ?_⟩ (hI1.up (by rw [hg1a]; omega) (by omega) (by omega)) (hS1.up (v := (b : Int)) ha (by omega) (by omega)).1 (fun x hx hgx => ?_)
            · by_cases e : j = a
              · subst e; rw [va_up_self, va_up_self]; omega
              · rw [va_up_ne _ _ e, va_up_ne _ _ e]; exact l2 j hj
            · have : x ≠ a := fun e => hgx (by rw [e]; exact hga)
              rw [va_up_ne _ _ this]
              exact (hkeep x hx hgx).1
      | succ q ihq =>
        intro b g1 RG LA' dg S x4 g4 hb he hok1 hcnt1 hg1a hLa hx1 hI1 hS1 hkeep
        obtain ⟨f1, ⟨BF, b1, b2⟩, ⟨IR, i1, i2⟩, ⟨RZ, r1, r2⟩, LZ, l1, l2⟩ := hx1
        have h11 : S.1 40 = _ := f1.at hst (by simp)
        have hw1 := f1.w.trans hw0
        have ela := l2 a ha
        rw [hLa] at ela
        have hbn : b < n := by omega
        have hBb := hB (a * 6 + b) (by omega)
        have hra : g1.1 a ≠ -2 := by rw [hg1a]; omega
        have hI2 := hI1.up (v := (b : Int)) hra (by omega) (by omega)
        have hS2 := hS1.up (v := (b : Int)) ha (by omega) (by omega)
        have dgr : dg ≤ 1000 := hS1.r hn hI1.2.2.2.2.2.2.2
        refine mj_iload_n d_Mo_go_67 rfl ?_
        refine mz_if_lt 220 d_Mo_go_68 (by decide) (by omega) (fun c_68 => ?_) (fun c_68 => ?_)
        · omega
        · refine mj_aload_n d_Mo_go_71 rfl ?_
          refine mj_get (ci := 9) (j := 32) d_Mo_go_72 rfl w_Mo_82 (by decide) (by omega) (by assumption) rfl ?_
          refine mj_iload_n d_Mo_go_75 rfl ?_
          refine mj_dup2 d_Mo_go_76 rfl rfl ?_
          refine mz_iald (j := a) d_Mo_go_77 (by omega) (by assumption) (by omega) (by omega) ?_
          rw [ela]
          refine mz_iconst d_Mo_go_78 ?_
          refine mz_iadd d_Mo_go_79 ?_
          refine mz_iast (j := a) d_Mo_go_80 (by omega) (by assumption) (by omega) (by omega) (fun S_80 w_80 e_80 f_80 => ?_)
          have h11 := f_80.at h11 (by simp)
          have b1 := f_80.at b1 (by simp)
          have i1 := f_80.at i1 (by simp)
          have r1 := f_80.at r1 (by simp)
          have f2 : mj_fr S0 S_80 [58, 59, 62, 63] := f1.tr f_80 (by simp) (by simp)
          have hl2 : ∀ j, j < n → va_up LZ a ((b : Int) - 1 + 1) j = va_up LA' a (b : Int) j := by
            intro j hj
            by_cases e : j = a
            · subst e; rw [va_up_self, va_up_self]; omega
            · rw [va_up_ne _ _ e, va_up_ne _ _ e]; exact l2 j hj
          have hkeep2 : ∀ x, x < n → g.1 x ≠ -2 → va_up LA' a (b : Int) x = LA x := by
            intro x hx hgx
            have : x ≠ a := fun e => hgx (by rw [e]; exact hga)
            rw [va_up_ne _ _ this]
            exact (hkeep x hx hgx).1
          -- on with the next
          have next : ∀ (g2 : GS) (RG2 : Nat → Int) (dg2 : Nat) (S2 : mj_S) (y4 : Value), c1 y4 → f b g1 = g2 → gOK n g2 → g2.1 = g1.1 → goX S0 S2 n g2 RG2 (va_up LA' a (b : Int)) → goI n g2 RG2 (va_up LA' a (b : Int)) dg2 → goS n B RG2 (va_up LA' a (b : Int)) dg2 → mj_Ok Γ d M_Mo_go 0 0 67 [.ref 40, .int (iZ i), .int (iZ dg2), .int (iZ a), y4] [] S2 (mj_V Q) := by
            intro g2 RG2 dg2 S2 y4 q4 hfb hok2 hcf hx2 hI3 hS3
            exact ihq (b + 1) g2 RG2 (va_up LA' a (b : Int)) dg2 S2 y4 q4 (by omega) (by rw [← he, chR, hfb]) hok2 (by rw [hcf]; exact hcnt1) (by rw [hcf]; exact hg1a) (by rw [va_up_self]; omega) hx2 hI3 hS3 (fun x hx hgx => ⟨hkeep2 x hx hgx, by rw [hcf]; exact (hkeep x hx hgx).2⟩)
          have same : ∀ y4, c1 y4 → f b g1 = g1 → mj_Ok Γ d M_Mo_go 0 0 67 [.ref 40, .int (iZ i), .int (iZ dg), .int (iZ a), y4] [] S_80 (mj_V Q) := by
            intro y4 q4 hfb
            exact next g1 RG dg S_80 y4 q4 hfb hok1 rfl ⟨f2, ⟨BF, b1, b2⟩, ⟨IR, i1, i2⟩, ⟨RZ, r1, r2⟩, _, e_80, hl2⟩ hI2 hS2.1
          refine mj_aload_n d_Mo_go_81 rfl ?_
          refine mj_get (ci := 9) (j := 32) d_Mo_go_82 rfl w_Mo_82 (by decide) (by omega) (by assumption) rfl ?_
          refine mj_iload_n d_Mo_go_85 rfl ?_
          refine mz_iald (j := a) d_Mo_go_86 (by omega) (by assumption) (by omega) (by omega) ?_
          rw [va_up_self, show (b : Int) - 1 + 1 = b by omega]
          refine mz_ist4 d_Mo_go_87 (by unfold mj_c1; simp only [List.all_cons, g4]; rfl) ?_
          refine mj_iload d_Mo_go_89 rfl ?_
          refine mj_aload_n d_Mo_go_91 rfl ?_
          refine mj_get (ci := 9) (j := 4) d_Mo_go_92 rfl w_Mo_129 (by decide) (by omega) (by assumption) rfl ?_
          refine mz_icmp_lt 108 d_Mo_go_95 (by decide) (by omega) (by omega) (fun c_95 => ?_) (fun c_95 => ?_)
          · refine mj_aload_n d_Mo_go_108 rfl ?_
            refine mj_iload_n d_Mo_go_109 rfl ?_
            refine mj_iload_n d_Mo_go_110 rfl ?_
            refine mj_iload d_Mo_go_111 rfl ?_
            refine mz_callV3i (ci := 9) d_Mo_go_113 (m_Mo_bondOf (d := 1) (f2.w.trans hw0) (f2.at hst (by simp)) (f2.at h40 (by simp)) hi (by omega) (by omega) (by omega)) cw_Mo_bondOf lk_Mo_196 rfl rfl (by omega) (by assumption) (by omega) rfl (fun z_113 S_113 h_113 => ?_)
            obtain ⟨e113, rfl⟩ := h_113
            rw [e113, hT a b ha hbn]
            refine mz_if_le 217 d_Mo_go_116 (by decide) (by omega) (fun c_116 => ?_) (fun c_116 => ?_)
            · refine mj_goto 67 d_Mo_go_217 (by decide) ?_
              exact same _ rfl (by rw [hf]; exact if_neg (by omega))
            · have hab : a ≠ b := by
                intro e
                have := hd0 a ha
                rw [← e] at c_116
                omega
              have ib := i2 b hbn
              have ibr : iR (IR b) := by rw [ib]; split <;> decide
              refine mj_aload_n d_Mo_go_119 rfl ?_
              refine mj_get (ci := 9) (j := 31) d_Mo_go_120 rfl w_Mo_79 (by decide) (by omega) (by assumption) rfl ?_
              refine mj_iload d_Mo_go_123 rfl ?_
              refine mz_zald (j := b) d_Mo_go_125 (by omega) (by assumption) (by omega) (by omega) ?_
              refine mz_if_ne 151 d_Mo_go_126 (by decide) (by omega) (fun c_126 => ?_) (fun c_126 => ?_)
              · -- reached before
                have hgb : g1.1 b ≠ -2 := by
                  intro e
                  rw [if_pos e] at ib
                  exact c_126 ib
                have hfb1 : f b g1 = if (b : Int) ≠ bf then (g1.1, mtR a b g1.2.1 g1.2.2.1 g1.2.2.2) else g1 := by
                  rw [hf]
                  show (if 0 < B (a * 6 + b) then _ else _) = _
                  rw [if_pos (by omega), if_neg hgb]
                have gr := hok1.1 b hbn
                have gbr : iR (g1.1 b) := by
                  rcases gr with e | e | ⟨x, e, x1⟩ <;> rw [e]
                  · decide
                  · decide
                  · constructor <;> omega
                clear gr
                refine mj_aload_n d_Mo_go_151 rfl ?_
                refine mj_get (ci := 9) (j := 27) d_Mo_go_152 rfl w_Mo_67 (by decide) (by omega) (by assumption) rfl ?_
                refine mj_iload_n d_Mo_go_155 rfl ?_
                refine mz_iald (j := a) d_Mo_go_156 (by omega) (by assumption) (by omega) (by omega) ?_
                rw [b2 a (by omega), if_pos ⟨ha, hra⟩, hg1a]
                refine mj_iload d_Mo_go_157 rfl ?_
                refine mz_icmp_eq 217 d_Mo_go_159 (by decide) (by omega) (by omega) (fun c_159 => ?_) (fun c_159 => ?_)
                · refine mj_goto 67 d_Mo_go_217 (by decide) ?_
                  exact same _ rfl (by rw [hfb1, if_neg (by omega)])
                · rw [if_pos (by omega)] at hfb1
                  have hnb : g1.1 b ≠ (a : Int) := by
                    intro e
                    have := hI1.2.2.2.2.2.2.1 b a hbn ha e
                    omega
                  refine mj_aload_n d_Mo_go_162 rfl ?_
                  refine mj_get (ci := 9) (j := 27) d_Mo_go_163 rfl w_Mo_67 (by decide) (by omega) (by assumption) rfl ?_
                  refine mj_iload d_Mo_go_166 rfl ?_
                  refine mz_iald (j := b) d_Mo_go_168 (by omega) (by assumption) (by omega) (by omega) ?_
                  rw [b2 b (by omega), if_pos ⟨hbn, hgb⟩]
                  refine mj_iload_n d_Mo_go_169 rfl ?_
                  refine mz_icmp_eq 217 d_Mo_go_170 (by decide) (by omega) (by omega) (fun c_170 => ?_) (fun c_170 => ?_)
                  · exact absurd c_170 hnb
                  · have rr := hI1.2.1 a b ha hbn
                    refine mj_aload_n d_Mo_go_173 rfl ?_
                    refine mj_get (ci := 9) (j := 28) d_Mo_go_174 rfl w_Mo_70 (by decide) (by omega) (by assumption) rfl ?_
                    refine mz_bipush d_Mo_go_177 (by decide) ?_
                    refine mj_iload_n d_Mo_go_179 rfl ?_
                    refine mz_imul d_Mo_go_180 ?_
                    refine mj_iload d_Mo_go_181 rfl ?_
                    refine mz_iadd d_Mo_go_183 ?_
                    refine mz_iald (j := a * 6 + b) d_Mo_go_184 (by omega) (by assumption) (by omega) (by omega) ?_
                    rw [r2 _ (by omega)]
                    refine mz_if_ne 217 d_Mo_go_185 (by decide) (by omega) (fun c_185 => ?_) (fun c_185 => ?_)
                    · refine mj_goto 67 d_Mo_go_217 (by decide) ?_
                      exact same _ rfl (by rw [hfb1, hI1.known ha hbn c_185 (by omega)])
                    · refine mz_inc2 d_Mo_go_188 (rfl) ?_
                      refine mj_aload_n d_Mo_go_191 rfl ?_
                      refine mj_get (ci := 9) (j := 28) d_Mo_go_192 rfl w_Mo_70 (by decide) (by omega) (by assumption) rfl ?_
                      refine mz_bipush d_Mo_go_195 (by decide) ?_
                      refine mj_iload_n d_Mo_go_197 rfl ?_
                      refine mz_imul d_Mo_go_198 ?_
                      refine mj_iload d_Mo_go_199 rfl ?_
                      refine mz_iadd d_Mo_go_201 ?_
                      refine mj_iload_n d_Mo_go_202 rfl ?_
                      refine mz_iast (j := a * 6 + b) d_Mo_go_203 (by omega) (by assumption) (by omega) (by omega) (fun S_203 w_203 e_203 f_203 => ?_)
                      have h11 := f_203.at h11 (by simp)
                      refine mj_aload_n d_Mo_go_204 rfl ?_
                      refine mj_get (ci := 9) (j := 28) d_Mo_go_205 rfl w_Mo_70 (by decide) (by omega) (by assumption) rfl ?_
                      refine mz_bipush d_Mo_go_208 (by decide) ?_
                      refine mj_iload d_Mo_go_210 rfl ?_
                      refine mz_imul d_Mo_go_212 ?_
                      refine mj_iload_n d_Mo_go_213 rfl ?_
                      refine mz_iadd d_Mo_go_214 ?_
                      refine mj_iload_n d_Mo_go_215 rfl ?_
                      refine mz_iast (j := b * 6 + a) d_Mo_go_216 (by omega) (by assumption) (by omega) (by omega) (fun S_216 w_216 e_216 f_216 => ?_)
                      refine mj_goto 67 d_Mo_go_217 (by decide) ?_
                      have f3 : mj_fr S_80 S_216 [59] := f_203.tr f_216 (by simp) (by simp)
                      have w := next (g1.1, mtR a b g1.2.1 g1.2.2.1 g1.2.2.2) (va_up (va_up RG (a * 6 + b) ((dg : Int) + 1)) (b * 6 + a) ((dg : Int) + 1)) (dg + 1) S_216 (.int (iZ b)) rfl hfb1 (gOK_mt hok1 ha hbn) rfl ⟨f2.tr f3 (by simp) (by simp), ⟨BF, f3.at b1 (by simp), b2⟩, ⟨IR, f3.at i1 (by simp), i2⟩, ⟨_, e_216, fun j hj => ?_⟩, _, f3.at e_80 (by simp), hl2⟩ (hI2.ring hn ha hbn hab c_185 (by rw [va_up_self]; exact Int.le_refl _)) ⟨hS2.2.1, hS2.2.2.1, fun x y hxn hyn hne => ?_⟩
                      · rw [show ((dg + 1 : Nat) : Int) = (dg : Int) + 1 by omega] at w
                        exact w
                      · by_cases q1 : j = b * 6 + a
                        · subst q1; rw [va_up_self, va_up_self]
                        · rw [va_up_ne _ _ q1, va_up_ne _ _ q1]
                          by_cases q2 : j = a * 6 + b
                          · subst q2; rw [va_up_self, va_up_self]
                          · rw [va_up_ne _ _ q2, va_up_ne _ _ q2]; exact r2 j hj
                      · by_cases q : (x = a ∧ y = b) ∨ (x = b ∧ y = a)
                        · rcases q with ⟨rfl, rfl⟩ | ⟨rfl, rfl⟩
                          · omega
                          · rw [hs _ _ hxn hyn]; omega
                        · have e := bset_xy (B := RG) (a := a) (b := b) (v := (dg : Int) + 1) (by omega) (by omega) (show x < 6 by omega) (show y < 6 by omega)
                          rw [if_neg q] at e
                          exact hS1.2.2 x y hxn hyn (fun z => hne (by rw [← z, ← e]; rfl))
              · -- not reached before
                have hgb : g1.1 b = -2 := by
                  by_cases e : g1.1 b = -2
                  · exact e
                  · rw [if_neg e] at ib; omega
                have hfb : f b g1 = gtI n B m b a g1 := by
                  rw [hf]
                  show (if 0 < B (a * 6 + b) then _ else _) = _
                  rw [if_pos (by omega), if_pos hgb]
                refine mj_aload_n d_Mo_go_129 rfl ?_
                refine mj_get (ci := 9) (j := 31) d_Mo_go_130 rfl w_Mo_79 (by decide) (by omega) (by assumption) rfl ?_
                refine mj_iload d_Mo_go_133 rfl ?_
                refine mz_iconst d_Mo_go_135 ?_
                refine mz_zast (j := b) d_Mo_go_136 (by omega) (by assumption) (by omega) (by omega) (by decide) (fun S_136 w_136 e_136 f_136 => ?_)
                have h11 := f_136.at h11 (by simp)
                have b1 := f_136.at b1 (by simp)
                refine mj_aload_n d_Mo_go_137 rfl ?_
                refine mj_get (ci := 9) (j := 27) d_Mo_go_138 rfl w_Mo_67 (by decide) (by omega) (by assumption) rfl ?_
                refine mj_iload d_Mo_go_141 rfl ?_
                refine mj_iload_n d_Mo_go_143 rfl ?_
                refine mz_iast (j := b) d_Mo_go_144 (by omega) (by assumption) (by omega) (by omega) (fun S_144 w_144 e_144 f_144 => ?_)
                refine mj_iload d_Mo_go_145 rfl ?_
                refine mz_ist3 d_Mo_go_147 (rfl) ?_
                refine mj_goto 217 d_Mo_go_148 (by decide) ?_
                refine mj_goto 67 d_Mo_go_217 (by decide) ?_
                have f3 : mj_fr S_80 S_144 [58, 62] := f_136.tr f_144 (by simp) (by simp)
                have hk2 := gtI_ok (B := B) m b (a : Int) g1 hok1 hbn hgb hcnt1 (Or.inr ⟨a, rfl, ha⟩)
                refine ih b (a : Int) g1 RG (va_up LA' a (b : Int)) dg S_144 (.int (iZ b)) rfl hok1 hbn hgb hcnt1 (Or.inr (by omega)) (by rw [va_up_ne _ _ (Ne.symm hab)]; exact hI1.2.2.2.2.2.1 b hbn hgb) hS2.1 ⟨f2.tr f3 (by simp) (by simp), ⟨_, e_144, fun j hj => ?_⟩, ⟨_, f_144.at e_136 (by simp), fun j hj => ?_⟩, ⟨RZ, f3.at r1 (by simp), r2⟩, _, f3.at e_80 (by simp), hl2⟩ (hI2.down (by rw [va_up_self]; exact Int.le_refl _)) (fun S5 RG5 LA5 dg5 y4 q4 hx5 hI5 hS5 hk5 => ?_)
                · show _ = if j < n ∧ va_up g1.1 b (a : Int) j ≠ -2 then va_up g1.1 b (a : Int) j else -1
                  by_cases e : j = b
                  · subst e; rw [va_up_self, va_up_self, if_pos ⟨hbn, by omega⟩]
                  · rw [va_up_ne _ _ e, va_up_ne _ _ e]; exact b2 j hj
                · show _ = if va_up g1.1 b (a : Int) j = -2 then 0 else 1
                  by_cases e : j = b
                  · subst e; rw [va_up_self, va_up_self, if_neg (by omega)]
                  · rw [va_up_ne _ _ e, va_up_ne _ _ e]; exact i2 j hj
                · have hLa5 := hk5 a ha hra
                  rw [va_up_self] at hLa5
                  refine ihq (b + 1) (gtI n B m b a g1) RG5 LA5 dg5 S5 y4 q4 (by omega) (by rw [← he, chR, hfb]) hk2.1 (by have := hk2.2; omega) (by rw [gtI_keep m b a g1 hgb a hra]; exact hg1a) (by omega) hx5 hI5 hS5 (fun x hx hgx => ?_)
                  have hx1 := (hkeep x hx hgx).2
                  refine ⟨(hk5 x hx hx1).trans (hkeep2 x hx hgx), ?_⟩
                  rw [gtI_keep m b a g1 hgb x hx1]
                  exact hx1
          · omega
    refine inner n 0 (va_up g.1 a bf, g.2) RG LA dg S x4 g4 (by omega) rfl (gOK_up hok ?_) (by show mj_cnt (va_up g.1 a bf) (-2) n ≤ m; omega) (va_up_self _ _ _) (by omega) hx hI hdg (fun x hx hgx => ⟨rfl, ?_⟩)
    · rcases hbf with e | e
      · exact Or.inl e
      · exact Or.inr ⟨bf.toNat, by omega, by omega⟩
    · show va_up g.1 a bf x ≠ -2
      have : x ≠ a := fun e => hgx (by rw [e]; exact hga)
      rw [va_up_ne _ _ this]
      exact hgx
end GO
