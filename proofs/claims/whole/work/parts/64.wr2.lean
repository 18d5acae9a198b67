/-! the reference: write -/
theorem rs_mB (cd : Nat → Nat) : ∀ n a, n ≤ 6 → a < n → mj_sum (fun x => (mB cd (a * 6 + x) : Int)) n = (rsp cd a (n * (n - 1) / 2) : Int) := by
  intro n a hn ha
  have hn' : n = 1 ∨ n = 2 ∨ n = 3 ∨ n = 4 ∨ n = 5 ∨ n = 6 := by omega
  have ha' : a = 0 ∨ a = 1 ∨ a = 2 ∨ a = 3 ∨ a = 4 ∨ a = 5 := by omega
  rcases hn' with rfl | rfl | rfl | rfl | rfl | rfl <;> rcases ha' with rfl | rfl | rfl | rfl | rfl | rfl <;> first | omega | (simp [mj_sum, mB, rsp, up6, lo6, pr] <;> omega)
/-- an atom's own signs; a child in its brackets; all that hangs on an atom -/
def ptH (K B RS RE : Nat → Int) (r a : Nat) (p : Nat × (Nat → Int)) : Nat × (Nat → Int) := prI B RS RE a r 1 (lnE p (K a).toNat)
def ptC (n : Nat) (K B CF RS RE : Nat → Int) (r m a : Nat) (b : Nat) (p : Nat × (Nat → Int)) : Nat × (Nat → Int) := if CF b = (a : Int) then lnA (ptI n K B CF RS RE r m b (lnB (lnA p 40) (B (a * 6 + b)))) 41 else p
def ptB (n : Nat) (K B CF RS RE : Nat → Int) (r m a : Nat) (q : Nat × (Nat → Int)) : Nat × (Nat → Int) :=
  if lfo CF a n = -1 then chR (ptC n K B CF RS RE r m a) (lfo CF a n).toNat 0 q else ptI n K B CF RS RE r m (lfo CF a n).toNat (lnB (chR (ptC n K B CF RS RE r m a) (lfo CF a n).toNat 0 q) (B (a * 6 + (lfo CF a n).toNat)))
theorem ptI_succ (n : Nat) (K B CF RS RE : Nat → Int) (r m a : Nat) (p : Nat × (Nat → Int)) : ptI n K B CF RS RE r (m + 1) a p = ptB n K B CF RS RE r m a (ptH K B RS RE r a p) := rfl
theorem lfo_max {CF : Nat → Int} {a : Int} : ∀ n, (lfo CF a n = -1 → ∀ j, j < n → CF j ≠ a) ∧ ∀ l : Nat, lfo CF a n = l → l < n ∧ CF l = a ∧ ∀ j, l < j → j < n → CF j ≠ a := by
  intro n
  induction n with
  | zero => exact ⟨fun _ j hj => absurd hj (Nat.not_lt_zero j), fun l h => by have h : (-1 : Int) = l := h; omega⟩
  | succ n ih =>
    rw [lfo]
    by_cases c : CF n = a
    · rw [if_pos c]
      refine ⟨fun h => by omega, fun l h => ?_⟩
      have : l = n := by omega
      subst this
      exact ⟨by omega, c, fun j h1 h2 => by omega⟩
    · rw [if_neg c]
      refine ⟨fun h j hj => ?_, fun l h => ?_⟩
      · by_cases e : j = n
        · subst e; exact c
        · exact ih.1 h j (by omega)
      · obtain ⟨q1, q2, q3⟩ := ih.2 l h
        refine ⟨by omega, q2, fun j h1 h2 => ?_⟩
        by_cases e : j = n
        · subst e; exact c
        · exact q3 j h1 (by omega)
theorem chR_to {f : Nat → Nat × (Nat → Int) → Nat × (Nat → Int)} : ∀ (u a r : Nat) (q : Nat × (Nat → Int)), (∀ x p, a ≤ x → x < a + u → f x p = p) → chR f (u + r) a q = chR f r (a + u) q := by
  intro u
  induction u with
  | zero => intro a r q _; rw [Nat.zero_add]; rfl
  | succ u ih =>
    intro a r q h
    rw [show u + 1 + r = (u + r) + 1 by omega, chR, h a q (by omega) (by omega), ih (a + 1) r q (fun x p h1 h2 => h x p (by omega) (by omega)), show a + 1 + u = a + (u + 1) by omega]
/-- a state of the writing: q is written; wv tells which atoms are, DN the last child of each, IO which are in brackets, PL the pile of depth k -/
def wrX (S0 S : mj_S) (n : Nat) (rf wr hy sr tr rs fo sg : Int) (CF : Nat → Int) (q : Nat × (Nat → Int)) (wv : Nat → Bool) (DN : Nat → Int) (IO : Nat → Bool) (PL : Nat → Int) (k : Nat) : Prop :=
  mj_fr S0 S [40, 41, 55, 60, 61] ∧ mo_lp S q rf wr n hy sr tr rs fo sg ∧ (∃ DZ, S.1 60 = .inl (0, 6, .inl (mj_z DZ)) ∧ ∀ j, j < n → DZ j = DN j) ∧ (∃ OZ, S.1 61 = .inl (2, 6, .inl (mj_z OZ)) ∧ ∀ j, j < n → OZ j = if IO j then 1 else 0) ∧ (∃ PZ, S.1 55 = .inl (0, 60, .inl (mj_z PZ)) ∧ ∀ j, j < k → PZ j = PL j) ∧
  (∀ x, x < n → wv x = false → DN x = -1) ∧ (∀ x y : Nat, x < n → y < n → CF x = y → wv x = true → wv y = true) ∧ q.1 + k + 9 * cF wv n ≤ 54
section WR2
variable {Γ : mj_G} {d n i r : Nat} {S0 : mj_S} {rf wr hy sr tr rs fo sg : Int} {T B RG El K CF RS RE BF : Nat → Int} {KM rk : Nat → Nat} {Q : Int → mj_S → Prop}
theorem wr_lvl (hw0 : S0.2.1 = 65) (h39 : S0.1 42 = .inl (0, 6, .inl (mj_z El))) (hK : ∀ j, j < n → El j = KM j ∧ KM j < 9) (hKM : ∀ j, j < n → K j = KM j) (h40 : S0.1 43 = .inl (0, 7500, .inl (mj_z T))) (h56 : S0.1 59 = .inl (0, 36, .inl (mj_z RG))) (h55 : S0.1 58 = .inl (0, 6, .inl (mj_z BF))) (hBF : ∀ j, j < n → ∀ a : Nat, (BF j = a ↔ CF j = a)) (hBFr : ∀ j, j < 6 → iR (BF j)) (hi : i < 500) (hn : n ≤ 6) (hT : ∀ x y, x < n → y < n → mo_bd T i x y = B (x * 6 + y)) (hB : ∀ j, j < 36 → 0 ≤ B j ∧ B j ≤ 3) (hR : ∀ x y, x < n → y < n → 0 ≤ RG (x * 6 + y) ∧ RG (x * 6 + y) ≤ 1000) (hRB : ∀ x y, x < n → y < n → RG (x * 6 + y) ≠ 0 → 0 < B (x * 6 + y)) (hs : ∀ a, a < n → mj_sum (fun x => B (a * 6 + x)) n ≤ 4) (hmp : ∀ a, a < n → ∀ p, mpI n B RG a p = prI B RS RE a r 1 p) (hrk : ∀ b x : Nat, b < n → x < n → CF b = x → rk x < rk b ∧ rk b ≤ 6) (hd : 3 ≤ d) :
    ∀ (m a k : Nat) (q : Nat × (Nat → Int)) (wv : Nat → Bool) (DN : Nat → Int) (IO : Nat → Bool) (PL : Nat → Int) (S : mj_S) (x3 x4 : Value), c1 x3 → c1 x4 → a < n → 7 ≤ m + 1 + rk a → PL k = a → wv a = true → DN a = -1 → (∀ c : Nat, c < n → CF c = a → wv c = false) →
    wrX S0 S n rf wr hy sr tr rs fo sg CF q wv DN IO PL (k + 1) →
    (∀ S' wv' DN' IO' y3 y4, c1 y3 → c1 y4 → wrX S0 S' n rf wr hy sr tr rs fo sg CF (if IO a then lnA (ptB n K B CF RS RE r m a q) 41 else ptB n K B CF RS RE r m a q) wv' DN' IO' PL k → (∀ x, x < n → wv x = true → wv' x = true ∧ IO' x = IO x ∧ (x ≠ a → DN' x = DN x)) → (∀ x, x < n → wv' x = true → wv x = false → ∃ y : Nat, y < n ∧ CF x = y ∧ (y = a ∨ wv y = false)) → mj_Ok Γ d M_Mo_write 0 0 75 [.ref 40, .int (iZ i), .int (iZ k), y3, y4] [] S' (mj_I Q)) →
    mj_Ok Γ d M_Mo_write 0 0 75 [.ref 40, .int (iZ i), .int (iZ ((k + 1 : Nat) : Int)), x3, x4] [] S (mj_I Q) := by
  -- one level, the deeper ones being told
  have lvl : ∀ (m a k : Nat) (q : Nat × (Nat → Int)) (wv : Nat → Bool) (DN : Nat → Int) (IO : Nat → Bool) (PL : Nat → Int) (S : mj_S) (x3 x4 : Value), c1 x3 → c1 x4 → a < n → PL k = a → wv a = true → DN a = -1 → (∀ c : Nat, c < n → CF c = a → wv c = false) →
      wrX S0 S n rf wr hy sr tr rs fo sg CF q wv DN IO PL (k + 1) →
      (∀ S' wv' DN' IO' y3 y4, c1 y3 → c1 y4 → wrX S0 S' n rf wr hy sr tr rs fo sg CF (if IO a then lnA (ptB n K B CF RS RE r m a q) 41 else ptB n K B CF RS RE r m a q) wv' DN' IO' PL k → (∀ x, x < n → wv x = true → wv' x = true ∧ IO' x = IO x ∧ (x ≠ a → DN' x = DN x)) → (∀ x, x < n → wv' x = true → wv x = false → ∃ y : Nat, y < n ∧ CF x = y ∧ (y = a ∨ wv y = false)) → mj_Ok Γ d M_Mo_write 0 0 75 [.ref 40, .int (iZ i), .int (iZ k), y3, y4] [] S' (mj_I Q)) →
      -- a child
      (∀ (b : Nat) (q2 : Nat × (Nat → Int)) (wv2 : Nat → Bool) (DN2 : Nat → Int) (IO2 : Nat → Bool) (S2 : mj_S) (z3 z4 : Value), c1 z3 → c1 z4 → b < n → CF b = a → wv2 b = true → DN2 b = -1 → (∀ c : Nat, c < n → CF c = b → wv2 c = false) → wrX S0 S2 n rf wr hy sr tr rs fo sg CF (ptH K B RS RE r b q2) wv2 DN2 IO2 (va_up PL (k + 1) (b : Int)) (k + 1 + 1) →
        (∀ S' wv' DN' IO' y3 y4, c1 y3 → c1 y4 → wrX S0 S' n rf wr hy sr tr rs fo sg CF (if IO2 b then lnA (ptI n K B CF RS RE r m b q2) 41 else ptI n K B CF RS RE r m b q2) wv' DN' IO' (va_up PL (k + 1) (b : Int)) (k + 1) → (∀ x, x < n → wv2 x = true → wv' x = true ∧ IO' x = IO2 x ∧ (x ≠ b → DN' x = DN2 x)) → (∀ x, x < n → wv' x = true → wv2 x = false → ∃ y : Nat, y < n ∧ CF x = y ∧ (y = b ∨ wv2 y = false)) → mj_Ok Γ d M_Mo_write 0 0 75 [.ref 40, .int (iZ i), .int (iZ ((k + 1 : Nat) : Int)), y3, y4] [] S' (mj_I Q)) →
        mj_Ok Γ d M_Mo_write 0 0 75 [.ref 40, .int (iZ i), .int (iZ ((k + 1 + 1 : Nat) : Int)), z3, z4] [] S2 (mj_I Q)) →
      mj_Ok Γ d M_Mo_write 0 0 75 [.ref 40, .int (iZ i), .int (iZ ((k + 1 : Nat) : Int)), x3, x4] [] S (mj_I Q) := by
    intro m a k q wv DN IO PL S x3 x4 g3 g4 ha hPk hwa hDa hch hX hc child
    have hlm := lfo_max (CF := CF) (a := (a : Int)) n
    -- b0: the children below it are done
    have inner : ∀ (u b0 : Nat) (q1 : Nat × (Nat → Int)) (wv1 : Nat → Bool) (DN1 : Nat → Int) (IO1 : Nat → Bool) (PL1 : Nat → Int) (S1 : mj_S) (x3 x4 : Value), c1 x3 → c1 x4 → b0 + u = n → DN1 a = (b0 : Int) - 1 →
        (((∀ c : Nat, c < n → CF c = a → c < b0) ∧ q1 = ptB n K B CF RS RE r m a q) ∨ ∃ l : Nat, lfo CF a n = l ∧ b0 ≤ l ∧ chR (ptC n K B CF RS RE r m a) (l - b0) b0 q1 = chR (ptC n K B CF RS RE r m a) l 0 q) →
        (∀ c : Nat, c < n → CF c = a → b0 ≤ c → wv1 c = false) → (∀ j, j < k + 1 → PL1 j = PL j) → wrX S0 S1 n rf wr hy sr tr rs fo sg CF q1 wv1 DN1 IO1 PL1 (k + 1) →
        (∀ x, x < n → wv x = true → wv1 x = true ∧ IO1 x = IO x ∧ (x ≠ a → DN1 x = DN x)) → (∀ x, x < n → wv1 x = true → wv x = false → ∃ y : Nat, y < n ∧ CF x = y ∧ (y = a ∨ wv y = false)) →
        mj_Ok Γ d M_Mo_write 0 0 75 [.ref 40, .int (iZ i), .int (iZ ((k + 1 : Nat) : Int)), x3, x4] [] S1 (mj_I Q) := by
      intro u
      induction u using Nat.strongRecOn with
      | ind u ihu =>
      intro b0 q1 wv1 DN1 IO1 PL1 S1 x3 x4 g3 g4 hb0 hD1 hrem hun hPL hX1 hfr hnew
      obtain ⟨f1, m1, ⟨DZ, d1, d2⟩, ⟨OZ, o1, o2⟩, ⟨PZ, p1, p2⟩, I1, I2, I3⟩ := id hX1
      have h11 : S1.1 40 = _ := m1.1
      have hw1 := f1.w.trans hw0
      have h55' := f1.at h55 (by simp)
      have epk : PZ k = (a : Int) := by rw [p2 k (by omega), hPL k (by omega), hPk]
      have eda : DZ a = (b0 : Int) - 1 := by rw [d2 a ha, hD1]
      have hk54 : k + 1 ≤ 54 := by omega
      refine mj_iload_n d_Mo_write_75 rfl ?_
      refine mz_if_le 206 d_Mo_write_76 (by decide) (by omega) (fun c_76 => ?_) (fun c_76 => ?_)
      · omega
      · refine mj_aload_n d_Mo_write_79 rfl ?_
        refine mj_get (ci := 9) (j := 24) d_Mo_write_80 rfl w_Mo_58 (by decide) (by omega) (by assumption) rfl ?_
        refine mj_iload_n d_Mo_write_83 rfl ?_
        refine mz_iconst d_Mo_write_84 ?_
        refine mz_isub d_Mo_write_85 ?_
        refine mz_iald (j := k) d_Mo_write_86 (by omega) (by assumption) (by omega) (by omega) ?_
        rw [epk]
        refine mz_ist3 d_Mo_write_87 (by unfold mj_c1; simp only [List.all_cons, g3, g4]; rfl) ?_
        refine mj_aload_n d_Mo_write_88 rfl ?_
        refine mj_iload_n d_Mo_write_89 rfl ?_
        refine mj_aload_n d_Mo_write_90 rfl ?_
        refine mj_get (ci := 9) (j := 29) d_Mo_write_91 rfl w_Mo_73 (by decide) (by omega) (by assumption) rfl ?_
        refine mj_iload_n d_Mo_write_94 rfl ?_
        refine mz_iald (j := a) d_Mo_write_95 (by omega) (by assumption) (by omega) (by omega) ?_
        rw [eda]
        refine mz_callV2i (ci := 9) d_Mo_write_96 (m_Mo_further (d := 0) hw1 m1.1 h55' hn hBFr (by constructor <;> omega) (by omega)) cw_Mo_further lk_Mo_210 rfl rfl (by omega) (by assumption) (by omega) rfl (fun z_96 S_96 h_96 => ?_)
        obtain ⟨e96, hz⟩ := h_96
        rw [e96]
        have hnoB : ∀ j : Nat, j < n → BF j ≠ (a : Int) → CF j ≠ (a : Int) := fun j hj h e => h ((hBF j hj a).mpr e)
        rcases hz with ⟨rfl, hno⟩ | ⟨b, rfl, hb1, hb2, hb3, hb4⟩
        · -- no child is left
          have hq1 : q1 = ptB n K B CF RS RE r m a q := by
            rcases hrem with ⟨_, e⟩ | ⟨l, e1, e2, _⟩
            · exact e
            · exfalso
              obtain ⟨w1, w2, _⟩ := hlm.2 l e1
              exact hnoB l w1 (hno l (by omega) w1) w2
          rw [← hq1] at hc
          refine mz_ist4 d_Mo_write_99 (by unfold mj_c1; simp only [List.all_cons, g4]; rfl) ?_
          refine mj_iload d_Mo_write_101 rfl ?_
          refine mz_if_ge 127 d_Mo_write_103 (by decide) (by omega) (fun c_103 => ?_) (fun c_103 => ?_)
          · omega
          · have oa := o2 a ha
            have ioa := (hfr a ha hwa).2.1
            have oar : iR (OZ a) := by rw [oa]; split <;> decide
            have pop : ∀ (S2 : mj_S) (q2 : Nat × (Nat → Int)), q2 = (if IO a then lnA q1 41 else q1) → mj_fr S1 S2 [40, 41] → mo_lp S2 q2 rf wr n hy sr tr rs fo sg → q2.1 ≤ q1.1 + 1 → mj_Ok Γ d M_Mo_write 0 0 121 [.ref 40, .int (iZ i), .int (iZ ((k + 1 : Nat) : Int)), .int (iZ a), .int (iZ (-1))] [] S2 (mj_I Q) := by
              intro S2 q2 hq2 f2 m2 hle
              refine mz_inc2 d_Mo_write_121 (rfl) ?_
              refine mj_goto 203 d_Mo_write_124 (by decide) ?_
              refine mj_goto 75 d_Mo_write_203 (by decide) ?_
              have w := hc S2 wv1 DN1 IO1 (.int (iZ a)) (.int (iZ (-1))) rfl rfl (by
                rw [← hq2]
                exact ⟨f1.tr f2 (by simp) (by simp), m2, ⟨DZ, f2.at d1 (by simp), d2⟩, ⟨OZ, f2.at o1 (by simp), o2⟩, ⟨PZ, f2.at p1 (by simp), fun j hj => by rw [p2 j (by omega), hPL j (by omega)]⟩, I1, I2, by omega⟩) hfr hnew
              rw [show (k : Int) = ((k + 1 : Nat) : Int) + -1 by omega] at w
              exact w
            refine mj_aload_n d_Mo_write_106 rfl ?_
            refine mj_get (ci := 9) (j := 30) d_Mo_write_107 rfl w_Mo_76 (by decide) (by omega) (by assumption) rfl ?_
            refine mj_iload_n d_Mo_write_110 rfl ?_
            refine mz_zald (j := a) d_Mo_write_111 (by omega) (by assumption) (by omega) (by omega) ?_
            refine mz_if_eq 121 d_Mo_write_112 (by decide) (by omega) (fun c_112 => ?_) (fun c_112 => ?_)
            · refine pop S1 q1 ?_ (mj_fr.rf _ _) m1 (by omega)
              cases z : IO a
              · rfl
              · rw [oa, ioa, z] at c_112; exact absurd c_112 (by decide)
            · refine mj_aload_n d_Mo_write_115 rfl ?_
              refine mz_bipush d_Mo_write_116 (by decide) ?_
              refine mz_callV1v (ci := 9) d_Mo_write_118 (m_Mo_put (d := 0) hw1 m1 (by omega) (by decide)) cw_Mo_put lk_Mo_200 rfl rfl (by omega) (by assumption) (by omega) rfl (fun S_118 h_118 => ?_)
              obtain ⟨k1, k2⟩ := h_118
              refine pop S_118 _ ?_ k1 k2 lnA_le.1
              cases z : IO a
              · rw [ioa, z] at oa; exact absurd oa c_112
              · rfl
        · -- the next child
          have hCb : CF b = (a : Int) := (hBF b hb2 a).mp hb3
          obtain ⟨l, el, hl⟩ : ∃ l : Nat, lfo CF a n = l ∧ b0 ≤ l ∧ chR (ptC n K B CF RS RE r m a) (l - b0) b0 q1 = chR (ptC n K B CF RS RE r m a) l 0 q := by
            rcases hrem with ⟨e, _⟩ | ⟨l, e1, e2⟩
            · have := e b hb2 hCb; omega
            · exact ⟨l, e1, e2⟩
          obtain ⟨hl1, hl2⟩ := hl
          obtain ⟨w1, w2, w3⟩ := hlm.2 l el
          have hbl : b ≤ l := by
            by_cases z : b ≤ l
            · exact z
            · exact absurd hCb (w3 b (by omega) hb2)
          have hub := hun b hb2 hCb (by omega)
          have hskip : chR (ptC n K B CF RS RE r m a) (l - b) b q1 = chR (ptC n K B CF RS RE r m a) l 0 q := by
            rw [← hl2, show l - b0 = (b - b0) + (l - b) by omega, chR_to (f := ptC n K B CF RS RE r m a) (b - b0) b0 (l - b) q1 (fun x p h1 h2 => if_neg (hnoB x (by omega) (hb4 x (by omega) (by omega)))), show b0 + (b - b0) = b by omega]
          have hab : a ≠ b := by
            intro e
            rw [e] at hwa
            have := (hfr b hb2 hwa).1
            rw [hub] at this
            exact absurd this (by decide)
          have hcF := cF_up hub n hb2
          have hbb := hB (a * 6 + b) (by omega)
          have kb := hK b hb2
          refine mz_ist4 d_Mo_write_99 (by unfold mj_c1; simp only [List.all_cons, g4]; rfl) ?_
          refine mj_iload d_Mo_write_101 rfl ?_
          refine mz_if_ge 127 d_Mo_write_103 (by decide) (by omega) (fun c_103 => ?_) (fun c_103 => ?_)
          · refine mj_aload_n d_Mo_write_127 rfl ?_
            refine mj_get (ci := 9) (j := 29) d_Mo_write_128 rfl w_Mo_73 (by decide) (by omega) (by assumption) rfl ?_
            refine mj_iload_n d_Mo_write_131 rfl ?_
            refine mj_iload d_Mo_write_132 rfl ?_
            refine mz_iast (j := a) d_Mo_write_134 (by omega) (by assumption) (by omega) (by omega) (fun S_134 w_134 e_134 f_134 => ?_)
            have h11 := f_134.at h11 (by simp)
            have o1 := f_134.at o1 (by simp)
            refine mj_aload_n d_Mo_write_135 rfl ?_
            refine mj_get (ci := 9) (j := 30) d_Mo_write_136 rfl w_Mo_76 (by decide) (by omega) (by assumption) rfl ?_
            refine mj_iload d_Mo_write_139 rfl ?_
            refine mj_aload_n d_Mo_write_141 rfl ?_
            refine mj_iload_n d_Mo_write_142 rfl ?_
            refine mj_iload d_Mo_write_143 rfl ?_
            refine mz_callV2i (ci := 9) d_Mo_write_145 (m_Mo_further (d := 0) (f_134.w.trans hw1) (f_134.at m1.1 (by simp)) (f_134.at h55' (by simp)) hn hBFr (by constructor <;> omega) (by omega)) cw_Mo_further lk_Mo_210 rfl rfl (by omega) (by assumption) (by omega) rfl (fun z_145 S_145 h_145 => ?_)
            obtain ⟨e145, hz⟩ := h_145
            rw [e145]
            have hzr : iR z_145 := by
              rcases hz with ⟨e, _⟩ | ⟨c, e, _⟩
              · rw [e]; decide
              · rw [e]; constructor <;> omega
            have hopen : 0 ≤ z_145 ↔ b < l := by
              rcases hz with ⟨e, hno⟩ | ⟨c, e, c1', c2', c3', -⟩
              · rw [e]
                refine ⟨fun z => by omega, fun z => ?_⟩
                exact absurd w2 (hnoB l w1 (hno l (by omega) w1))
              · rw [e]
                refine ⟨fun _ => ?_, fun _ => by omega⟩
                by_cases z : b < l
                · exact z
                · exact absurd ((hBF c c2' a).mp c3') (w3 c (by omega) c2')
            clear hz
            -- the child is put, whether in brackets or not
            have rest : ∀ (S2 : mj_S) (q2 : Nat × (Nat → Int)) (op : Bool), (op = true ↔ b < l) → q2 = (if op then lnA q1 40 else q1) → mj_fr S_134 S2 [40, 41, 61] → mo_lp S2 q2 rf wr n hy sr tr rs fo sg → q2.1 ≤ q1.1 + 1 → S2.1 61 = .inl (2, 6, .inl (mj_z (va_up OZ b (if op then 1 else 0)))) → mj_Ok Γ d M_Mo_write 0 0 173 [.ref 40, .int (iZ i), .int (iZ ((k + 1 : Nat) : Int)), .int (iZ a), .int (iZ b)] [] S2 (mj_I Q) := by
              intro S2 q2 op hop hq2 f2 m2 hle o2'
              have f12 : mj_fr S0 S2 [40, 41, 55, 60, 61] := (f1.tr f_134 (l := [40, 41, 55, 60, 61]) (by simp) (by simp)).tr f2 (by simp) (by simp)
              have hw2 := f12.w.trans hw0
              have h12 : S2.1 40 = _ := m2.1
              have lb := lnB_le (p := q2) (b := B (a * 6 + b)) hbb
              have lb1 : (lnB q2 (B (a * 6 + b))).1 ≤ q2.1 + 1 := by
                have := lb.1
                split at this <;> omega
              have l6 : (lnB q2 (B (a * 6 + b))).1 + 6 ≤ 60 := by omega
              refine mj_aload_n d_Mo_write_173 rfl ?_
              refine mj_aload_n d_Mo_write_174 rfl ?_
              refine mj_iload_n d_Mo_write_175 rfl ?_
              refine mj_iload_n d_Mo_write_176 rfl ?_
              refine mj_iload d_Mo_write_177 rfl ?_
              refine mz_callV3i (ci := 9) d_Mo_write_179 (m_Mo_bondOf (d := 2) hw2 m2.1 (f12.at h40 (by simp)) hi (by omega) (by omega) (by omega)) cw_Mo_bondOf lk_Mo_196 rfl rfl (by omega) (by assumption) (by omega) rfl (fun z_179 S_179 h_179 => ?_)
              obtain ⟨e179, rfl⟩ := h_179
              rw [e179, hT a b ha hb2]
              refine mz_callV1v (ci := 9) d_Mo_write_182 (m_Mo_putBond (d := 2) hw2 m2 hbb (by split <;> omega) (by omega)) cw_Mo_putBond lk_Mo_213 rfl rfl (by omega) (by assumption) (by omega) rfl (fun S_182 h_182 => ?_)
              obtain ⟨k1, k2⟩ := h_182
              have f13 : mj_fr S0 S_182 [40, 41, 55, 60, 61] := f12.tr k1 (by simp) (by simp)
              have k20 : S_182.1 40 = _ := k2.1
              have hw3 := f13.w.trans hw0
              refine mj_aload_n d_Mo_write_185 rfl ?_
              refine mj_iload_n d_Mo_write_186 rfl ?_
              refine mj_iload d_Mo_write_187 rfl ?_
              refine mz_callV2v (ci := 9) d_Mo_write_189 (m_Mo_putAtom (d := 2) (f13.w.trans hw0) k2 (f13.at h39 (by simp)) hK (f13.at h40 (by simp)) (f13.at h56 (by simp)) hi hn hb2 hT hB hR hRB (hs b hb2) l6 (by omega)) cw_Mo_putAtom lk_Mo_207 rfl rfl (by omega) (by assumption) (by omega) rfl (fun S_189 h_189 => ?_)
              obtain ⟨k3, k4, k5⟩ := h_189
              have k40 : S_189.1 40 = _ := k4.1
              have f14 : mj_fr S_134 S_189 [40, 41, 61] := (f2.tr k1 (l := [40, 41, 61]) (by simp) (by simp)).tr k3 (by simp) (by simp)
              have hw4 := f14.w.trans (f_134.w.trans hw1)
              have p1' := f14.at (f_134.at p1 (by simp)) (by simp)
              refine mj_aload_n d_Mo_write_192 rfl ?_
              refine mj_get (ci := 9) (j := 24) d_Mo_write_193 rfl w_Mo_58 (by decide) (by omega) (by assumption) rfl ?_
              refine mj_iload_n d_Mo_write_196 rfl ?_
              refine mj_iload d_Mo_write_197 rfl ?_
              refine mz_iast (j := k + 1) d_Mo_write_199 (by omega) (by assumption) (by omega) (by omega) (fun S_199 w_199 e_199 f_199 => ?_)
              refine mz_inc2 d_Mo_write_200 (rfl) ?_
              refine mj_goto 75 d_Mo_write_203 (by decide) ?_
              have eH : mpI n B RG b (lnE (lnB q2 (B (a * 6 + b))) (KM b)) = ptH K B RS RE r b (lnB q2 (B (a * 6 + b))) := by
                unfold ptH
                rw [hmp b hb2, hKM b hb2, Int.toNat_natCast]
              rw [eH] at k4 k5
              have fz : mj_fr S0 S_199 [40, 41, 55, 60, 61] := ((f1.tr f_134 (l := [40, 41, 55, 60, 61]) (by simp) (by simp)).tr f14 (l := [40, 41, 55, 60, 61]) (by simp) (by simp)).tr f_199 (by simp) (by simp)
              have hXb : wrX S0 S_199 n rf wr hy sr tr rs fo sg CF (ptH K B RS RE r b (lnB q2 (B (a * 6 + b)))) (va_up wv1 b true) (va_up DN1 a (b : Int)) (va_up IO1 b op) (va_up PL (k + 1) (b : Int)) (k + 1 + 1) := by
                refine ⟨fz, ⟨f_199.at k4.1 (by simp), f_199.at k4.2.1 (by simp), k4.2.2⟩, ⟨_, f_199.at (f14.at e_134 (by simp)) (by simp), fun j hj => ?_⟩, ⟨_, f_199.at (k3.at (k1.at o2' (by simp)) (by simp)) (by simp), fun j hj => ?_⟩, ⟨_, e_199, fun j hj => ?_⟩, fun x hx hwx => ?_, fun x y hx hy hxy hwx => ?_, ?_⟩
                · by_cases e : j = a
                  · subst e; rw [va_up_self, va_up_self]
                  · rw [va_up_ne _ _ e, va_up_ne _ _ e]; exact d2 j hj
                · by_cases e : j = b
                  · subst e; rw [va_up_self, va_up_self]
                  · rw [va_up_ne _ _ e, va_up_ne _ _ e]; exact o2 j hj
                · by_cases e : j = k + 1
                  · subst e; rw [va_up_self, va_up_self]
                  · rw [va_up_ne _ _ e, va_up_ne _ _ e, p2 j (by omega), hPL j (by omega)]
                · by_cases e : x = b
                  · subst e; rw [va_up_self] at hwx; exact absurd hwx (by decide)
                  · rw [va_up_ne _ _ e] at hwx
                    have xa : x ≠ a := by
                      intro e2
                      rw [e2, (hfr a ha hwa).1] at hwx
                      exact absurd hwx (by decide)
                    rw [va_up_ne _ _ xa]
                    exact I1 x hx hwx
                · by_cases e : x = b
                  · subst e
                    have : y = a := by omega
                    subst this
                    rw [va_up_ne _ _ hab]
                    exact (hfr y ha hwa).1
                  · rw [va_up_ne _ _ e] at hwx
                    have := I2 x y hx hy hxy hwx
                    by_cases e2 : y = b
                    · subst e2; rw [va_up_self]
                    · rw [va_up_ne _ _ e2]; exact this
                · omega
              have w := child b (lnB q2 (B (a * 6 + b))) (va_up wv1 b true) (va_up DN1 a (b : Int)) (va_up IO1 b op) S_199 (.int (iZ a)) (.int (iZ b)) rfl rfl hb2 hCb (va_up_self _ _ _) (by rw [va_up_ne _ _ (Ne.symm hab)]; exact I1 b hb2 hub) (fun c hc2 hcb => by
                have cb : c ≠ b := by
                  intro e
                  rw [e, hCb] at hcb
                  omega
                rw [va_up_ne _ _ cb]
                cases z : wv1 c
                · rfl
                · have := I2 c b hc2 hb2 hcb z
                  rw [hub] at this
                  exact absurd this (by decide)) hXb (fun S' wv' DN' IO' y3 y4 q3 q4 hX' hfr' hnew' => by
                rw [va_up_self] at hX'
                have hwa' := (hfr a ha hwa).1
                refine ihu (n - (b + 1)) (by omega) (b + 1) (if op then lnA (ptI n K B CF RS RE r m b (lnB q2 (B (a * 6 + b)))) 41 else ptI n K B CF RS RE r m b (lnB q2 (B (a * 6 + b)))) wv' DN' IO' (va_up PL (k + 1) (b : Int)) S' y3 y4 q3 q4 (by omega) ?_ ?_ (fun c hc2 hca hbc => ?_) (fun j hj => va_up_ne _ _ (by omega)) hX' (fun x hx hwx => ?_) (fun x hx hwx hox => ?_)
                · have := (hfr' a ha (by rw [va_up_ne _ _ hab]; exact hwa')).2.2 hab
                  rw [this, va_up_self]
                  omega
                · by_cases z : b < l
                  · have ht : op = true := hop.mpr z
                    rw [ht] at hq2 ⊢
                    refine Or.inr ⟨l, el, by omega, ?_⟩
                    rw [← hskip, show l - b = (l - (b + 1)) + 1 by omega, chR]
                    unfold ptC
                    rw [if_pos hCb, hq2]
                    rfl
                  · have ht : op = false := by
                      cases y : op
                      · rfl
                      · exact absurd (hop.mp y) z
                    have ebl : b = l := by omega
                    subst ebl
                    rw [ht] at hq2 ⊢
                    refine Or.inl ⟨fun c hc2 hca => ?_, ?_⟩
                    · by_cases y : c < b + 1
                      · exact y
                      · exact absurd hca (w3 c (by omega) hc2)
                    · show ptI n K B CF RS RE r m b (lnB q2 (B (a * 6 + b))) = ptB n K B CF RS RE r m a q
                      unfold ptB
                      rw [el, if_neg (by omega), Int.toNat_natCast, ← hskip, Nat.sub_self, hq2]
                      rfl
                · cases z : wv' c
                  · rfl
                  · exfalso
                    have cb : c ≠ b := by omega
                    have hc1 : va_up wv1 b true c = false := by rw [va_up_ne _ _ cb]; exact hun c hc2 hca (by omega)
                    obtain ⟨y, y1, y2, y3⟩ := hnew' c hc2 z hc1
                    have : y = a := by omega
                    subst this
                    rcases y3 with y3 | y3
                    · exact hab y3
                    · rw [va_up_ne _ _ hab, hwa'] at y3
                      exact absurd y3 (by decide)
                · have h0 := hfr x hx hwx
                  have xb : x ≠ b := by
                    intro e
                    rw [e, hub] at h0
                    exact absurd h0.1 (by decide)
                  have h1' := hfr' x hx (by rw [va_up_ne _ _ xb]; exact h0.1)
                  refine ⟨h1'.1, ?_, fun xa => ?_⟩
                  · rw [h1'.2.1, va_up_ne _ _ xb]; exact h0.2.1
                  · rw [h1'.2.2 xb, va_up_ne _ _ xa]; exact h0.2.2 xa
                · by_cases z : va_up wv1 b true x = true
                  · by_cases e : x = b
                    · subst e
                      exact ⟨a, ha, hCb, Or.inl rfl⟩
                    · rw [va_up_ne _ _ e] at z
                      exact hnew x hx z hox
                  · have z : va_up wv1 b true x = false := by
                      cases y : va_up wv1 b true x
                      · rfl
                      · exact absurd y z
                    obtain ⟨y, y1, y2, y3⟩ := hnew' x hx hwx z
                    refine ⟨y, y1, y2, ?_⟩
                    have yb : wv b = false := by
                      cases y5 : wv b
                      · rfl
                      · have := (hfr b hb2 y5).1
                        rw [hub] at this
                        exact absurd this (by decide)
                    rcases y3 with y3 | y3
                    · rw [y3]; exact Or.inr yb
                    · right
                      cases y5 : wv y
                      · rfl
                      · have h7 := (hfr y y1 y5).1
                        by_cases e : y = b
                        · rw [e] at y3; rw [va_up_self] at y3; exact absurd y3 (by decide)
                        · rw [va_up_ne _ _ e, h7] at y3
                          exact absurd y3 (by decide))
              rw [show ((k + 1 + 1 : Nat) : Int) = ((k + 1 : Nat) : Int) + 1 by omega] at w
              exact w
            have tail : ∀ (op : Bool), (op = true ↔ b < l) → mj_Ok Γ d M_Mo_write 0 0 156 [.ref 40, .int (iZ i), .int (iZ ((k + 1 : Nat) : Int)), .int (iZ a), .int (iZ b)] [.int (iZ (if op then 1 else 0)), .int (iZ b), .ref 61] S_134 (mj_I Q) := by
              intro op hop
              have hnr := mj_narZ op
              have hw3 := f_134.w.trans hw1
              refine mz_zast (j := b) d_Mo_write_156 (by omega) (by assumption) (by omega) (by omega) (hnr) (fun S_156 w_156 e_156 f_156 => ?_)
              have h12 := f_156.at h11 (by simp)
              have hw4 := f_156.w.trans hw3
              refine mj_aload_n d_Mo_write_157 rfl ?_
              refine mj_get (ci := 9) (j := 30) d_Mo_write_158 rfl w_Mo_76 (by decide) (by omega) (by assumption) rfl ?_
              refine mj_iload d_Mo_write_161 rfl ?_
              refine mz_zald (j := b) d_Mo_write_163 (by omega) (by assumption) (by omega) (by omega) ?_
              rw [va_up_self]
              have m4 : mo_lp S_156 q1 rf wr n hy sr tr rs fo sg := ⟨f_156.at (f_134.at m1.1 (by simp)) (by simp), f_156.at (f_134.at m1.2.1 (by simp)) (by simp), m1.2.2⟩
              have opr : iR (if op then (1 : Int) else 0) := by cases op <;> decide
              refine mz_if_eq 173 d_Mo_write_164 (by decide) (by omega) (fun c_164 => ?_) (fun c_164 => ?_)
              · have ht : op = false := by
                  cases y : op
                  · rfl
                  · rw [y] at c_164; exact absurd c_164 (by decide)
                exact rest S_156 q1 op hop (by rw [ht]; rfl) (f_156.tr (mj_fr.rf _ []) (by simp) (by simp)) m4 (by omega) e_156
              · have ht : op = true := by
                  cases y : op
                  · rw [y] at c_164; exact absurd rfl c_164
                  · rfl
                refine mj_aload_n d_Mo_write_167 rfl ?_
                refine mz_bipush d_Mo_write_168 (by decide) ?_
                refine mz_callV1v (ci := 9) d_Mo_write_170 (m_Mo_put (d := 0) hw4 m4 (by omega) (by decide)) cw_Mo_put lk_Mo_200 rfl rfl (by omega) (by assumption) (by omega) rfl (fun S_170 h_170 => ?_)
                obtain ⟨k1, k2⟩ := h_170
                exact rest S_170 _ op hop (by rw [ht]; rfl) (f_156.tr k1 (by simp) (by simp)) k2 lnA_le.1 (k1.at e_156 (by simp))
            refine mz_if_lt 155 d_Mo_write_148 (by decide) (by omega) (fun c_148 => ?_) (fun c_148 => ?_)
            · refine mz_iconst d_Mo_write_155 ?_
              exact tail false ⟨fun z => absurd z (by decide), fun z => by have := hopen.mpr z; omega⟩
            · refine mz_iconst d_Mo_write_151 ?_
              refine mj_goto 156 d_Mo_write_152 (by decide) ?_
              exact tail true ⟨fun _ => hopen.mp c_148, fun _ => rfl⟩
          · omega
    refine inner n 0 q wv DN IO PL S x3 x4 g3 g4 (by omega) (by omega) ?_ (fun c hc2 hca _ => hch c hc2 hca) (fun j hj => rfl) hX (fun x hx hwx => ⟨hwx, rfl, fun _ => rfl⟩) (fun x hx h1 h2 => by rw [h2] at h1; exact absurd h1 (by decide))
    by_cases z : lfo CF a n = -1
    · refine Or.inl ⟨fun c hc2 hca => absurd hca (hlm.1 z c hc2), ?_⟩
      unfold ptB
      rw [if_pos z, z]
      rfl
    · rcases lfo_r (CF := CF) (a := (a : Int)) n with e | ⟨l, e1, e2, e3⟩
      · exact absurd e z
      · exact Or.inr ⟨l, e1, by omega, rfl⟩
  intro m
  induction m with
  | zero =>
    intro a k q wv DN IO PL S x3 x4 g3 g4 ha hm hPk hwa hDa hch hX hc
    exact lvl 0 a k q wv DN IO PL S x3 x4 g3 g4 ha hPk hwa hDa hch hX hc (fun b q2 wv2 DN2 IO2 S2 z3 z4 k3 k4 hb hCb => by
      exfalso
      have := hrk b a hb ha hCb
      omega)
  | succ m ih =>
    intro a k q wv DN IO PL S x3 x4 g3 g4 ha hm hPk hwa hDa hch hX hc
    refine lvl (m + 1) a k q wv DN IO PL S x3 x4 g3 g4 ha hPk hwa hDa hch hX hc (fun b q2 wv2 DN2 IO2 S2 z3 z4 k3 k4 hb hCb hwb hDb hcb hXb hcont => ?_)
    have hr := hrk b a hb ha hCb
    exact ih b (k + 1) (ptH K B RS RE r b q2) wv2 DN2 IO2 (va_up PL (k + 1) (b : Int)) S2 z3 z4 k3 k4 hb (by omega) (va_up_self _ _ _) hwb hDb hcb hXb hcont
end WR2
