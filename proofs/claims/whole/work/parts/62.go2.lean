/-! the reference: go as a whole; putAtom -/
section GO2
variable {Γ : mj_G} {d n i : Nat} {S : mj_S} {rf sz wr hy sr tr rs fo sg : Int} {T B : Nat → Int}
theorem m_Mo_go {CF RS RE RZ0 BF0 LZ0 IR0 : Nat → Int} (hw : S.2.1 = 65) (hst : mo_st S rf sz wr n hy sr tr rs fo sg) (h40 : S.1 43 = .inl (0, 7500, .inl (mj_z T))) (h55 : S.1 58 = .inl (0, 6, .inl (mj_z BF0))) (h56 : S.1 59 = .inl (0, 36, .inl (mj_z RZ0))) (h59 : S.1 62 = .inl (2, 6, .inl (mj_z IR0))) (h60 : S.1 63 = .inl (0, 6, .inl (mj_z LZ0))) (hi : i < 500) (hn : 1 ≤ n ∧ n ≤ 6) (hT : ∀ x y, x < n → y < n → mo_bd T i x y = B (x * 6 + y)) (hB : ∀ j, j < 36 → 0 ≤ B j ∧ B j ≤ 3) (hd0 : ∀ x, x < n → B (x * 6 + x) = 0) (hs : ∀ x y, x < n → y < n → B (x * 6 + y) = B (y * 6 + x)) (hd : 2 ≤ d) :
    mj_Met Γ d y_Mo_go M_Mo_go [.ref 40, .int (iZ i)] S 0 0 (mj_V fun S' => ∃ RG LA dg, goX S S' n (gtI n B 6 0 (-1) (mj_fl CF (-2) 6, 0, RS, RE)) RG LA ∧ goI n (gtI n B 6 0 (-1) (mj_fl CF (-2) 6, 0, RS, RE)) RG LA dg ∧ goS n B RG LA dg) := by
  have h1 : S.1 40 = _ := hst
  obtain ⟨Q, hQ⟩ : ∃ Q : mj_S → Prop, Q = (fun S' => ∃ RG LA dg, goX S S' n (gtI n B 6 0 (-1) (mj_fl CF (-2) 6, 0, RS, RE)) RG LA ∧ goI n (gtI n B 6 0 (-1) (mj_fl CF (-2) 6, 0, RS, RE)) RG LA dg ∧ goS n B RG LA dg) := ⟨_, rfl⟩
  rw [← hQ]
  refine mj_Met.of (by decide) ⟨rfl, rfl⟩ rfl rfl rfl ?_
  refine mz_iconst d_Mo_go_0 ?_
  refine mz_ist2 d_Mo_go_1 (rfl) ?_
  have hfl : ∀ j, j < 6 → mj_fl CF (-2) 6 j = -2 := fun j hj => if_pos hj
  have fill2 : ∀ (q j : Nat) (S2 : mj_S) (BF LZ IR RZ : Nat → Int), j + q = 6 → mj_fr S S2 [58, 59, 62, 63] → S2.1 59 = .inl (0, 36, .inl (mj_z RZ)) → (∀ x, x < 36 → RZ x = 0) → S2.1 58 = .inl (0, 6, .inl (mj_z BF)) → (∀ x, x < j → BF x = -1) → S2.1 63 = .inl (0, 6, .inl (mj_z LZ)) → (∀ x, x < j → LZ x = -1) → S2.1 62 = .inl (2, 6, .inl (mj_z IR)) → (∀ x, x < j → IR x = 0) → mj_Ok Γ d M_Mo_go 0 0 23 [.ref 40, .int (iZ i), .int (iZ j), .retAddr 0, .retAddr 0] [] S2 (mj_V Q) := by
    intro q
    induction q with
    | zero =>
      intro j S2 BF LZ IR RZ hj f2 r1 r2 b1 b2 l1 l2 i1 i2
      have : j = 6 := by omega
      subst this
      have h12 := f2.at h1 (by simp)
      have hw2 := f2.w.trans hw
      refine mj_iload_n d_Mo_go_23 rfl ?_
      refine mz_bipush d_Mo_go_24 (by decide) ?_
      refine mz_icmp_ge 56 d_Mo_go_26 (by decide) (by omega) (by omega) (fun c_26 => ?_) (fun c_26 => ?_)
      · refine mz_iconst d_Mo_go_56 ?_
        refine mz_ist2 d_Mo_go_57 (rfl) ?_
        refine mz_iconst d_Mo_go_58 ?_
        refine mz_ist3 d_Mo_go_59 (rfl) ?_
        refine mj_aload_n d_Mo_go_60 rfl ?_
        refine mj_get (ci := 9) (j := 31) d_Mo_go_61 rfl w_Mo_79 (by decide) (by omega) (by assumption) rfl ?_
        refine mz_iconst d_Mo_go_64 ?_
        refine mz_iconst d_Mo_go_65 ?_
        refine mz_zast (j := 0) d_Mo_go_66 (by omega) (by assumption) (by omega) (by omega) (by decide) (fun S_66 w_66 e_66 f_66 => ?_)
        have hok : gOK n (mj_fl CF (-2) 6, 0, RS, RE) := ⟨fun j hj => Or.inl (hfl j (by omega)), by show 0 ≤ 9; decide, fun j j1 j2 => by have : j ≤ 0 := j2; omega⟩
        have hcnt := mj_cnt_le (mj_fl CF (-2) 6) (-2) n
        refine go_lvl hw hst h40 hi hn.2 hT hB hd0 hs hd 6 0 (-1) (mj_fl CF (-2) 6, 0, RS, RE) (fun _ => 0) (fun _ => -1) 0 S_66 (.retAddr 0) rfl hok (by omega) (hfl 0 (by omega)) (by show mj_cnt (mj_fl CF (-2) 6) (-2) n ≤ 6; omega) (Or.inl rfl) rfl ⟨?_, fun j hj => by show (-1 : Int) ≤ n; omega, fun x y _ _ hne => absurd rfl hne⟩ ⟨f2.tr f_66 (by simp) (by simp), ⟨BF, f_66.at b1 (by simp), fun j hj => ?_⟩, ⟨_, e_66, fun j hj => ?_⟩, ⟨RZ, f_66.at r1 (by simp), r2⟩, LZ, f_66.at l1 (by simp), fun j hj => l2 j (by omega)⟩ ?_ (fun S5 RG5 LA5 dg5 y4 q4 hx5 hI5 hS5 hk5 => ?_)
        · rw [mj_sum_zero (f := fun x => (fun _ => (-1 : Int)) x + 1) n (fun y hy => by show (-1 : Int) + 1 = 0; decide)]
          decide
        · rw [b2 j hj]
          show (-1 : Int) = if j < n ∧ va_up (mj_fl CF (-2) 6) 0 (-1) j ≠ -2 then va_up (mj_fl CF (-2) 6) 0 (-1) j else -1
          by_cases e : j = 0
          · subst e; rw [va_up_self, if_pos ⟨by omega, by decide⟩]
          · rw [va_up_ne _ _ e, if_neg (fun z => z.2 (hfl j hj))]
        · show _ = if va_up (mj_fl CF (-2) 6) 0 (-1) j = -2 then 0 else 1
          by_cases e : j = 0
          · subst e; rw [va_up_self, va_up_self, if_neg (by decide)]
          · rw [va_up_ne _ _ e, va_up_ne _ _ e, if_pos (hfl j (by omega))]; exact i2 j (by omega)
        · have hv : ∀ j, j < 6 → va_up (mj_fl CF (-2) 6) 0 (-1) j = -1 ∨ va_up (mj_fl CF (-2) 6) 0 (-1) j = -2 := by
            intro j hj
            by_cases e : j = 0
            · subst e; rw [va_up_self]; exact Or.inl rfl
            · rw [va_up_ne _ _ e]; exact Or.inr (hfl j hj)
          refine ⟨fun x y hx hy => rfl, fun x y hx hy => ⟨by show (0 : Int) ≤ 0; decide, by show (0 : Int) ≤ 0; decide⟩, rfl, fun d d1 d2 => ?_, fun x y hx hy d d1 d2 hd => ?_, fun j hj _ => rfl, fun b x hb hx hbx => ?_, fun j hj => by show (-1 : Int) ≤ -1; decide⟩
          · have : d ≤ 0 := d2
            omega
          · have : d ≤ 0 := d2
            omega
          · have hbx : va_up (mj_fl CF (-2) 6) 0 (-1) b = x := hbx
            rcases hv b (by omega) with e | e <;> rw [e] at hbx <;> omega
        · refine mj_iload_n d_Mo_go_67 rfl ?_
          refine mz_if_lt 220 d_Mo_go_68 (by decide) (by omega) (fun c_68 => ?_) (fun c_68 => ?_)
          · refine mz_vret d_Mo_go_220 rfl ?_
            rw [hQ]
            exact ⟨RG5, LA5, dg5, hx5, hI5, hS5⟩
          · omega
      · omega
    | succ q ih =>
      intro j S2 BF LZ IR RZ hj f2 r1 r2 b1 b2 l1 l2 i1 i2
      have h12 := f2.at h1 (by simp)
      have hw2 := f2.w.trans hw
      refine mj_iload_n d_Mo_go_23 rfl ?_
      refine mz_bipush d_Mo_go_24 (by decide) ?_
      refine mz_icmp_ge 56 d_Mo_go_26 (by decide) (by omega) (by omega) (fun c_26 => ?_) (fun c_26 => ?_)
      · omega
      · refine mj_aload_n d_Mo_go_29 rfl ?_
        refine mj_get (ci := 9) (j := 27) d_Mo_go_30 rfl w_Mo_67 (by decide) (by omega) (by assumption) rfl ?_
        refine mj_iload_n d_Mo_go_33 rfl ?_
        refine mz_iconst d_Mo_go_34 ?_
        refine mz_iast d_Mo_go_35 (by omega) (by assumption) (rfl) (by omega) (fun S_35 w_35 e_35 f_35 => ?_)
        have h12 := f_35.at h12 (by simp)
        have l1 := f_35.at l1 (by simp)
        refine mj_aload_n d_Mo_go_36 rfl ?_
        refine mj_get (ci := 9) (j := 32) d_Mo_go_37 rfl w_Mo_82 (by decide) (by omega) (by assumption) rfl ?_
        refine mj_iload_n d_Mo_go_40 rfl ?_
        refine mz_iconst d_Mo_go_41 ?_
        refine mz_iast d_Mo_go_42 (by omega) (by assumption) (rfl) (by omega) (fun S_42 w_42 e_42 f_42 => ?_)
        have h12 := f_42.at h12 (by simp)
        have i1 := f_42.at (f_35.at i1 (by simp)) (by simp)
        refine mj_aload_n d_Mo_go_43 rfl ?_
        refine mj_get (ci := 9) (j := 31) d_Mo_go_44 rfl w_Mo_79 (by decide) (by omega) (by assumption) rfl ?_
        refine mj_iload_n d_Mo_go_47 rfl ?_
        refine mz_iconst d_Mo_go_48 ?_
        refine mz_zast d_Mo_go_49 (by omega) (by assumption) (rfl) (by omega) (by decide) (fun S_49 w_49 e_49 f_49 => ?_)
        refine mz_inc2 d_Mo_go_50 (rfl) ?_
        refine mj_goto 23 d_Mo_go_53 (by decide) ?_
        have f3 : mj_fr S2 S_49 [58, 62, 63] := (f_35.tr f_42 (l := [58, 62, 63]) (by simp) (by simp)).tr f_49 (by simp) (by simp)
        have up : ∀ (A : Nat → Int) (v : Int), (∀ x, x < j → A x = v) → ∀ x, x < j + 1 → va_up A j v x = v := by
          intro A v hA x hx
          by_cases e : x = j
          · subst e; rw [va_up_self]
          · rw [va_up_ne _ _ e]; exact hA x (by omega)
        have w := ih (j + 1) S_49 _ _ _ RZ (by omega) (f2.tr f3 (by simp) (by simp)) (f3.at r1 (by simp)) r2 (f_49.at (f_42.at e_35 (by simp)) (by simp)) (up BF (-1) b2) (f_49.at e_42 (by simp)) (up LZ (-1) l2) e_49 (up IR 0 i2)
        rw [show ((j + 1 : Nat) : Int) = (j : Int) + 1 by omega] at w
        exact w
  have fill1 : ∀ (q j : Nat) (S2 : mj_S) (RZ : Nat → Int), j + q = 36 → mj_fr S S2 [59] → S2.1 59 = .inl (0, 36, .inl (mj_z RZ)) → (∀ x, x < j → RZ x = 0) → mj_Ok Γ d M_Mo_go 0 0 2 [.ref 40, .int (iZ i), .int (iZ j), .retAddr 0, .retAddr 0] [] S2 (mj_V Q) := by
    intro q
    induction q with
    | zero =>
      intro j S2 RZ hj f2 r1 r2
      have : j = 36 := by omega
      subst this
      refine mj_iload_n d_Mo_go_2 rfl ?_
      refine mz_bipush d_Mo_go_3 (by decide) ?_
      refine mz_icmp_ge 21 d_Mo_go_5 (by decide) (by omega) (by omega) (fun c_5 => ?_) (fun c_5 => ?_)
      · refine mz_iconst d_Mo_go_21 ?_
        refine mz_ist2 d_Mo_go_22 (rfl) ?_
        exact fill2 6 0 S2 BF0 LZ0 IR0 RZ (by omega) (f2.tr (mj_fr.rf _ []) (by simp) (by simp)) r1 r2 (f2.at h55 (by simp)) (fun x hx => absurd hx (Nat.not_lt_zero x)) (f2.at h60 (by simp)) (fun x hx => absurd hx (Nat.not_lt_zero x)) (f2.at h59 (by simp)) (fun x hx => absurd hx (Nat.not_lt_zero x))
      · omega
    | succ q ih =>
      intro j S2 RZ hj f2 r1 r2
      have h12 := f2.at h1 (by simp)
      have hw2 := f2.w.trans hw
      refine mj_iload_n d_Mo_go_2 rfl ?_
      refine mz_bipush d_Mo_go_3 (by decide) ?_
      refine mz_icmp_ge 21 d_Mo_go_5 (by decide) (by omega) (by omega) (fun c_5 => ?_) (fun c_5 => ?_)
      · omega
      · refine mj_aload_n d_Mo_go_8 rfl ?_
        refine mj_get (ci := 9) (j := 28) d_Mo_go_9 rfl w_Mo_70 (by decide) (by omega) (by assumption) rfl ?_
        refine mj_iload_n d_Mo_go_12 rfl ?_
        refine mz_iconst d_Mo_go_13 ?_
        refine mz_iast d_Mo_go_14 (by omega) (by assumption) (rfl) (by omega) (fun S_14 w_14 e_14 f_14 => ?_)
        refine mz_inc2 d_Mo_go_15 (rfl) ?_
        refine mj_goto 2 d_Mo_go_18 (by decide) ?_
        have w := ih (j + 1) S_14 _ (by omega) (f2.tr f_14 (by simp) (by simp)) e_14 (fun x hx => by
          by_cases e : x = j
          · subst e; rw [va_up_self]
          · rw [va_up_ne _ _ e]; exact r2 x (by omega))
        rw [show ((j + 1 : Nat) : Int) = (j : Int) + 1 by omega] at w
        exact w
  exact fill1 36 0 S RZ0 (by omega) (mj_fr.rf _ _) h56 (fun x hx => absurd hx (Nat.not_lt_zero x))
end GO2
/-- the rings of an atom, as the reference puts them -/
def mpB (B RG : Nat → Int) (a dg : Nat) (b : Nat) (p : Nat × (Nat → Int)) : Nat × (Nat → Int) := if RG (a * 6 + b) = dg then lnA (lnB p (B (a * 6 + b))) (48 + (dg : Int)) else p
def mpD (n : Nat) (B RG : Nat → Int) (a dg : Nat) (p : Nat × (Nat → Int)) : Nat × (Nat → Int) := chR (mpB B RG a dg) n 0 p
def mpI (n : Nat) (B RG : Nat → Int) (a : Nat) (p : Nat × (Nat → Int)) : Nat × (Nat → Int) := chR (mpD n B RG a) 9 1 p
/-- how many signs the rings may take, the digits below dg and, of dg, the atoms below b being put -/
def mpU (B RG : Nat → Int) (a dg b : Nat) : Nat → Int
  | 0 => 0
  | x + 1 => mpU B RG a dg b x + if RG (a * 6 + x) < dg ∨ (RG (a * 6 + x) = dg ∧ x < b) then B (a * 6 + x) else 0
theorem mpU_le {B RG : Nat → Int} {a dg b : Nat} : ∀ m, (∀ x, x < m → 0 ≤ B (a * 6 + x)) → 0 ≤ mpU B RG a dg b m ∧ mpU B RG a dg b m ≤ mj_sum (fun x => B (a * 6 + x)) m := by
  intro m
  induction m with
  | zero => intro _; exact ⟨Int.le_refl _, Int.le_refl _⟩
  | succ m ih =>
    intro h
    have h1 := ih (fun x hx => h x (by omega))
    have h2 := h m (by omega)
    rw [mpU, mj_sum]
    split <;> omega
theorem mpU_step {B RG : Nat → Int} {a dg b : Nat} : ∀ m, (∀ x, x < m → 0 ≤ B (a * 6 + x)) → mpU B RG a dg (b + 1) m = mpU B RG a dg b m + if b < m ∧ RG (a * 6 + b) = dg then B (a * 6 + b) else 0 := by
  intro m
  induction m with
  | zero => intro _; rw [mpU, mpU, if_neg (by omega)]; rfl
  | succ m ih =>
    intro h
    rw [mpU, mpU, ih (fun x hx => h x (by omega))]
    by_cases e : b = m
    · subst e
      by_cases q : RG (a * 6 + b) = dg
      · rw [if_neg (by omega), if_pos (Or.inr ⟨q, by omega⟩), if_neg (by omega), if_pos ⟨by omega, q⟩]
      · rw [if_neg (by omega), if_neg (show ¬ (b < b + 1 ∧ RG (a * 6 + b) = dg) from fun z => q z.2)]
        by_cases q2 : RG (a * 6 + b) < dg
        · rw [if_pos (Or.inl q2), if_pos (Or.inl q2)]; omega
        · rw [if_neg (by omega), if_neg (by omega)]
    · have e1 : (b < m ∧ RG (a * 6 + b) = dg) ↔ (b < m + 1 ∧ RG (a * 6 + b) = dg) := by omega
      have e2 : (RG (a * 6 + m) < dg ∨ RG (a * 6 + m) = dg ∧ m < b + 1) ↔ (RG (a * 6 + m) < dg ∨ RG (a * 6 + m) = dg ∧ m < b) := by omega
      simp only [e1, e2]
      omega
theorem mpU_next {B RG : Nat → Int} {a dg b : Nat} : ∀ m, m ≤ b → mpU B RG a (dg + 1) 0 m = mpU B RG a dg b m := by
  intro m
  induction m with
  | zero => intro _; rfl
  | succ m ih =>
    intro h
    rw [mpU, mpU, ih (by omega)]
    have e : (RG (a * 6 + m) < ((dg + 1 : Nat) : Int) ∨ RG (a * 6 + m) = ((dg + 1 : Nat) : Int) ∧ m < 0) ↔ (RG (a * 6 + m) < dg ∨ RG (a * 6 + m) = dg ∧ m < b) := by omega
    simp only [e]
theorem lnB_le {p : Nat × (Nat → Int)} {b : Int} (hb : 0 ≤ b ∧ b ≤ 3) : (lnB p b).1 ≤ p.1 + (if 2 ≤ b then 1 else 0) ∧ p.1 ≤ (lnB p b).1 := by
  unfold lnB lnA
  by_cases q2 : b = 2
  · rw [if_pos q2, if_pos (show 2 ≤ b by omega)]
    split
    · exact ⟨Nat.le_refl _, by show p.1 ≤ p.1 + 1; omega⟩
    · omega
  · rw [if_neg q2]
    by_cases q3 : b = 3
    · rw [if_pos q3, if_pos (show 2 ≤ b by omega)]
      split
      · exact ⟨Nat.le_refl _, by show p.1 ≤ p.1 + 1; omega⟩
      · omega
    · rw [if_neg q3, if_neg (by omega)]
      omega
theorem lnA_le {p : Nat × (Nat → Int)} {c : Int} : (lnA p c).1 ≤ p.1 + 1 ∧ p.1 ≤ (lnA p c).1 := by
  unfold lnA
  split
  · exact ⟨Nat.le_refl _, by show p.1 ≤ p.1 + 1; omega⟩
  · omega
theorem lnE_le {p : Nat × (Nat → Int)} {k : Nat} : (lnE p k).1 ≤ p.1 + 2 ∧ p.1 ≤ (lnE p k).1 := by
  unfold lnE
  split
  · have := lnA_le (p := p) (c := mj_FST k); omega
  · have h1 := lnA_le (p := p) (c := mj_FST k)
    have h2 := lnA_le (p := lnA p (mj_FST k)) (c := mj_SND k)
    omega
theorem chR_skip {α : Type} {f : Nat → α → α} {N b : Nat} (hf : ∀ x p, x < N → x ≠ b → f x p = p) : ∀ (r a : Nat) (p : α), a + r ≤ N → chR f r a p = if a ≤ b ∧ b < a + r then f b p else p := by
  intro r
  induction r with
  | zero => intro a p _; rw [chR, if_neg (by omega)]
  | succ r ih =>
    intro a p ha
    rw [chR, ih (a + 1) _ (by omega)]
    by_cases e : a = b
    · subst e
      rw [if_neg (by omega), if_pos (by omega)]
    · rw [hf a p (by omega) e]
      by_cases q : a + 1 ≤ b ∧ b < a + 1 + r
      · rw [if_pos q, if_pos (by omega)]
      · rw [if_neg q, if_neg (by omega)]
/-- the reference's rings of an atom are the class's -/
theorem mp_pr {n : Nat} {g : GS} {B RG LA : Nat → Int} {dg a : Nat} (h : goI n g RG LA dg) (ha : a < n) (hs : ∀ x y, x < n → y < n → B (x * 6 + y) = B (y * 6 + x)) : ∀ (q d : Nat) (p : Nat × (Nat → Int)), 1 ≤ d → d + q = g.2.1 + 1 → chR (mpD n B RG a) q d p = prI B g.2.2.1 g.2.2.2 a q d p := by
  obtain ⟨h1, h2, h3, h4, h5, -⟩ := h
  intro q
  induction q with
  | zero => intro d p _ _; rfl
  | succ q ih =>
    intro d p hd hq
    rw [chR, prI, ih (d + 1) _ (by omega) (by omega)]
    congr 1
    obtain ⟨x, y, q1, q2, q3, q4, q5, q6, -⟩ := h4 d hd (by omega)
    unfold mpD
    rw [q4, q5, Int.toNat_natCast, Int.toNat_natCast]
    have uniq : ∀ b, b < n → RG (a * 6 + b) = d → (a = x ∧ b = y) ∨ (a = y ∧ b = x) := by
      intro b hb hR
      rcases h5 a b ha hb d hd (by omega) hR with ⟨e1, e2⟩ | ⟨e1, e2⟩ <;> omega
    by_cases c1 : a = x
    · rw [chR_skip (f := mpB B RG a d) (b := y) (N := n) (fun z p hz hne => if_neg (fun e => by have := uniq z hz e; omega)) n 0 p (by omega), if_pos (by omega)]
      rw [if_pos (show (x : Int) = a ∨ (y : Int) = a by omega)]
      unfold mpB
      rw [c1, if_pos q6]
    · by_cases c2 : a = y
      · rw [chR_skip (f := mpB B RG a d) (b := x) (N := n) (fun z p hz hne => if_neg (fun e => by have := uniq z hz e; omega)) n 0 p (by omega), if_pos (by omega)]
        rw [if_pos (show (x : Int) = a ∨ (y : Int) = a by omega)]
        unfold mpB
        rw [c2, h1 y x q2 q1, if_pos q6, hs y x q2 q1]
      · rw [if_neg (show ¬ ((x : Int) = a ∨ (y : Int) = a) by omega)]
        exact chR_same n 0 (fun b _ hb => if_neg (fun e => by have := uniq b (by omega) e; omega))
theorem mp_pr9 {n : Nat} {g : GS} {B RG LA : Nat → Int} {dg a : Nat} (h : goI n g RG LA dg) (ha : a < n) (hs : ∀ x y, x < n → y < n → B (x * 6 + y) = B (y * 6 + x)) (p : Nat × (Nat → Int)) : mpI n B RG a p = prI B g.2.2.1 g.2.2.2 a g.2.1 1 p := by
  have h3 := h.2.2.1
  have h2 := h.2.1
  unfold mpI
  have split9 : ∀ (r q d : Nat) (p : Nat × (Nat → Int)), chR (mpD n B RG a) (r + q) d p = chR (mpD n B RG a) q (d + r) (chR (mpD n B RG a) r d p) := by
    intro r
    induction r with
    | zero => intro q d p; rw [Nat.zero_add]; rfl
    | succ r ih =>
      intro q d p
      rw [show r + 1 + q = (r + q) + 1 by omega, chR, ih q (d + 1), show d + 1 + r = d + (r + 1) by omega]
      rfl
  have e := split9 g.2.1 (9 - g.2.1) 1 p
  rw [show g.2.1 + (9 - g.2.1) = 9 by omega] at e
  rw [e, mp_pr h ha hs g.2.1 1 p (by omega) (by omega)]
  refine chR_same (9 - g.2.1) (1 + g.2.1) (fun d d1 d2 => ?_)
  unfold mpD
  refine chR_same n 0 (fun b _ hb => if_neg (fun e => ?_))
  have := h2 a b ha (by omega)
  omega
