/-! groups joined by bonds, counted; what is reached from the first atom -/
theorem chR_last {α : Type} (f : Nat → α → α) : ∀ (r a : Nat) (p : α), chR f (r + 1) a p = f (a + r) (chR f r a p) := by
  intro r
  induction r with
  | zero => intro a p; rfl
  | succ r ih =>
    intro a p
    rw [chR, ih (a + 1) (f a p), show a + 1 + r = a + (r + 1) by omega]
    rfl
theorem chR_inv {α : Type} {f : Nat → α → α} (I : Nat → α → Prop) {N : Nat} (h : ∀ a p, a < N → I a p → I (a + 1) (f a p)) : ∀ (r a : Nat) (p : α), a + r ≤ N → I a p → I (a + r) (chR f r a p) := by
  intro r
  induction r with
  | zero => intro a p _ hp; exact hp
  | succ r ih =>
    intro a p ha hp
    rw [chR, show a + (r + 1) = a + 1 + r by omega]
    exact ih (a + 1) (f a p) (by omega) (h a p (by omega) hp)
theorem chR_eq {α : Type} {f g : Nat → α → α} {N : Nat} (h : ∀ a p, a < N → f a p = g a p) : ∀ (r a : Nat) (p : α), a + r ≤ N → chR f r a p = chR g r a p := by
  intro r
  induction r with
  | zero => intro a p _; rfl
  | succ r ih =>
    intro a p ha
    rw [chR, chR, h a p (by omega), ih _ _ (by omega)]
theorem cgN_succ (B : Nat → Nat) (n : Nat) : cgN B (n + 1) = cgI B n ((cgN B n).1 + 1, va_up (cgN B n).2 n n) := by
  unfold cgN
  rw [chR_last, Nat.zero_add]
theorem cgN_congr {B B' : Nat → Nat} : ∀ n, (∀ x y, x < n → y < x → B (x * 6 + y) = B' (x * 6 + y)) → cgN B n = cgN B' n := by
  intro n
  induction n with
  | zero => intro _; rfl
  | succ n ih =>
    intro h
    rw [cgN_succ, cgN_succ, ih (fun x y hx hy => h x y (by omega) hy)]
    unfold cgI
    exact chR_eq (N := n) (fun b p hb => by rw [h n b (by omega) hb]) n 0 _ (by omega)
/-- sums of digits -/
def sN (cd : Nat → Nat) : Nat → Nat
  | 0 => 0
  | q + 1 => sN cd q + cd q
theorem sN_congr {cd cd' : Nat → Nat} : ∀ q, (∀ j, j < q → cd j = cd' j) → sN cd q = sN cd' q := by
  intro q
  induction q with
  | zero => intro _; rfl
  | succ q ih => intro h; rw [sN, sN, ih (fun j hj => h j (by omega)), h q (by omega)]
theorem cgI_low {B cd : Nat → Nat} {n : Nat} (p : Int × (Nat → Nat)) (h : ∀ b, b < n → B (n * 6 + b) = cd (pr n b)) : p.1 + sN cd (pr n 0) ≤ (cgI B n p).1 + sN cd (pr n n) := by
  unfold cgI
  have w := chR_inv (f := fun b (p : Int × (Nat → Nat)) => if 0 < B (n * 6 + b) ∧ p.2 b ≠ p.2 n then (p.1 - 1, fun j => if p.2 j = p.2 b then p.2 n else p.2 j) else p) (fun b q => p.1 + sN cd (pr n 0) ≤ q.1 + sN cd (pr n b)) (N := n) (fun b q hb hq => by
    have e : pr n (b + 1) = pr n b + 1 := by unfold pr; omega
    have hB := h b hb
    rw [e, sN]
    by_cases c : 0 < B (n * 6 + b) ∧ q.2 b ≠ q.2 n
    · rw [if_pos c]
      show _ ≤ q.1 - 1 + _
      omega
    · rw [if_neg c]
      omega) n 0 p (by omega) (Int.le_refl _)
  rw [Nat.zero_add] at w
  exact w
theorem cgN_low {B cd : Nat → Nat} {k : Nat} : ∀ m, k + m ≤ 6 → mxB B cd (pr (k + m) 0) → (cgN B k).1 + m + sN cd (pr k 0) ≤ (cgN B (k + m)).1 + sN cd (pr (k + m) 0) := by
  intro m
  induction m with
  | zero => intro _ _; show _ ≤ (cgN B k).1 + _; simp
  | succ m ih =>
    intro hm hx
    have e : pr (k + (m + 1)) 0 = pr (k + m) (k + m) := (show ∀ a, a < 6 → pr (a + 1) 0 = pr a a by decide) (k + m) (by omega)
    rw [e] at hx ⊢
    have t : ∀ a, a < 6 → ∀ b, b < a → pr a b < pr a a := by decide
    have t0 : pr (k + m) 0 ≤ pr (k + m) (k + m) := by unfold pr; omega
    have h1 := ih (by omega) (fun a b ha hb hp => hx a b ha hb (by omega))
    have h2 := cgI_low (B := B) (cd := cd) (n := k + m) ((cgN B (k + m)).1 + 1, va_up (cgN B (k + m)).2 (k + m) (k + m)) (fun b hb => (hx (k + m) b (by omega) hb (t _ (by omega) b hb)).1)
    rw [show k + (m + 1) = k + m + 1 by omega, cgN_succ]
    have h3 : ((cgN B (k + m)).1 + 1, va_up (cgN B (k + m)).2 (k + m) (k + m)).1 = (cgN B (k + m)).1 + 1 := rfl
    rw [h3] at h2
    omega
/-- how many atoms bear their own number -/
def fxp (l : Nat → Nat) : Nat → Int
  | 0 => 0
  | n + 1 => fxp l n + if l n = n then 1 else 0
theorem fxp_congr {l l' : Nat → Nat} : ∀ n, (∀ j, j < n → (l j = j ↔ l' j = j)) → fxp l n = fxp l' n := by
  intro n
  induction n with
  | zero => intro _; rfl
  | succ n ih =>
    intro h
    rw [fxp, fxp, ih (fun j hj => h j (by omega))]
    by_cases c : l n = n
    · rw [if_pos c, if_pos ((h n (by omega)).mp c)]
    · rw [if_neg c, if_neg (fun e => c ((h n (by omega)).mpr e))]
theorem fxp_less {l l' : Nat → Nat} {f : Nat} (hf : l f = f) : ∀ n, f < n → (∀ j, j < n → (l' j = j ↔ l j = j ∧ j ≠ f)) → fxp l' n = fxp l n - 1 := by
  intro n
  induction n with
  | zero => intro h _; exact absurd h (Nat.not_lt_zero f)
  | succ n ih =>
    intro hfn h
    rw [fxp, fxp]
    by_cases e : f = n
    · have h1 := fxp_congr (l := l') (l' := l) n (fun j hj => by
        rw [h j (by omega)]
        exact ⟨fun q => q.1, fun q => ⟨q, by omega⟩⟩)
      rw [h1, if_neg (fun q => ((h n (by omega)).mp q).2 e.symm), if_pos (by rw [← e]; exact hf)]
      omega
    · have h1 := ih (by omega) (fun j hj => h j (by omega))
      rw [h1]
      by_cases c : l n = n
      · rw [if_pos c, if_pos ((h n (by omega)).mpr ⟨c, fun q => e q.symm⟩)]; omega
      · rw [if_neg c, if_neg (fun q => c ((h n (by omega)).mp q).1)]; omega
theorem fxp_two {l : Nat → Nat} {x y : Nat} (hxy : x ≠ y) (hx : l x = x) (hy : l y = y) : ∀ n, x < n → y < n → 2 ≤ fxp l n := by
  have one : ∀ {z : Nat}, l z = z → ∀ n, z < n → 1 ≤ fxp l n := by
    intro z hz n
    induction n with
    | zero => intro h; exact absurd h (Nat.not_lt_zero z)
    | succ n ih =>
      intro h
      rw [fxp]
      have nn : ∀ n, 0 ≤ fxp l n := by
        intro n
        induction n with
        | zero => exact Int.le_refl _
        | succ n ih => rw [fxp]; split <;> omega
      by_cases e : z = n
      · subst e; rw [if_pos hz]; have := nn z; omega
      · have := ih (by omega)
        split <;> omega
  intro n
  induction n with
  | zero => intro h; exact absurd h (Nat.not_lt_zero x)
  | succ n ih =>
    intro h1 h2
    rw [fxp]
    by_cases e1 : x = n
    · subst e1; rw [if_pos hx]; have := one hy x (by omega); omega
    · by_cases e2 : y = n
      · subst e2; rw [if_pos hy]; have := one hx y (by omega); omega
      · have := ih (by omega) (by omega)
        split <;> omega
/-- what holds of the groups of the first n atoms, the bonds of atom n - 1 with those below m being joined; X is closed under bonds -/
def grI (B : Nat → Nat) (X : Nat → Prop) (n m : Nat) (p : Int × (Nat → Nat)) : Prop :=
  (∀ x, x < n → p.2 x < n ∧ p.2 (p.2 x) = p.2 x) ∧ p.1 = fxp p.2 n ∧ (∀ x y, x < n → y < x → (x + 1 < n ∨ y < m) → 0 < B (x * 6 + y) → p.2 x = p.2 y) ∧ ∀ x y, x < n → y < n → p.2 x = p.2 y → (X x ↔ X y)
theorem grI_row {B : Nat → Nat} {X : Nat → Prop} {n : Nat} (hX : ∀ x y, x < n + 1 → y < x → 0 < B (x * 6 + y) → (X x ↔ X y)) {p : Int × (Nat → Nat)} (h : grI B X (n + 1) 0 p) : grI B X (n + 1) n (cgI B n p) := by
  unfold cgI
  have w := chR_inv (f := fun b (p : Int × (Nat → Nat)) => if 0 < B (n * 6 + b) ∧ p.2 b ≠ p.2 n then (p.1 - 1, fun j => if p.2 j = p.2 b then p.2 n else p.2 j) else p) (fun b q => grI B X (n + 1) b q) (N := n) (fun b q hb hq => by
    obtain ⟨i1, i2, i3, i4⟩ := hq
    by_cases c : 0 < B (n * 6 + b) ∧ q.2 b ≠ q.2 n
    · rw [if_pos c]
      have hn := i1 n (by omega)
      have hbb := i1 b (by omega)
      refine ⟨fun x hx => ?_, ?_, fun x y hx hy ho hB => ?_, fun x y hx hy he => ?_⟩
      · show (if q.2 x = q.2 b then q.2 n else q.2 x) < n + 1 ∧ (if q.2 (if q.2 x = q.2 b then q.2 n else q.2 x) = q.2 b then q.2 n else q.2 (if q.2 x = q.2 b then q.2 n else q.2 x)) = (if q.2 x = q.2 b then q.2 n else q.2 x)
        by_cases e : q.2 x = q.2 b
        · rw [if_pos e]
          refine ⟨hn.1, ?_⟩
          rw [hn.2, if_neg (fun z => c.2 z.symm)]
        · rw [if_neg e]
          have hx1 := i1 x hx
          refine ⟨hx1.1, ?_⟩
          rw [hx1.2, if_neg e]
      · show q.1 - 1 = fxp (fun j => if q.2 j = q.2 b then q.2 n else q.2 j) (n + 1)
        rw [i2]
        refine (fxp_less (f := q.2 b) hbb.2 (n + 1) hbb.1 (fun j hj => ?_)).symm
        show (if q.2 j = q.2 b then q.2 n else q.2 j) = j ↔ _
        by_cases e : q.2 j = q.2 b
        · rw [if_pos e]
          constructor
          · intro z
            exfalso
            apply c.2
            rw [← e, ← z, hn.2]
          · intro z
            exfalso
            apply z.2
            rw [← e]; exact z.1.symm
        · rw [if_neg e]
          refine ⟨fun z => ⟨z, fun z2 => e ?_⟩, fun z => z.1⟩
          rw [z2, hbb.2]
      · show (if q.2 x = q.2 b then q.2 n else q.2 x) = (if q.2 y = q.2 b then q.2 n else q.2 y)
        by_cases o : x + 1 < n + 1 ∨ y < b
        · rw [i3 x y hx hy o hB]
        · have ex : x = n := by omega
          have ey : y = b := by omega
          subst ex
          subst ey
          rw [if_pos rfl, if_neg (fun z => c.2 z.symm)]
      · have he : (if q.2 x = q.2 b then q.2 n else q.2 x) = (if q.2 y = q.2 b then q.2 n else q.2 y) := he
        have hnb := hX n b (by omega) hb c.1
        by_cases ex : q.2 x = q.2 b
        · have x1 := i4 x b hx (by omega) ex
          by_cases ey : q.2 y = q.2 b
          · have y1 := i4 y b hy (by omega) ey
            exact x1.trans y1.symm
          · rw [if_pos ex, if_neg ey] at he
            have y1 := i4 y n hy (by omega) he.symm
            exact x1.trans (hnb.symm.trans y1.symm)
        · by_cases ey : q.2 y = q.2 b
          · rw [if_neg ex, if_pos ey] at he
            have x1 := i4 x n hx (by omega) he
            have y1 := i4 y b hy (by omega) ey
            exact x1.trans (hnb.trans y1.symm)
          · rw [if_neg ex, if_neg ey] at he
            exact i4 x y hx hy he
    · rw [if_neg c]
      refine ⟨i1, i2, fun x y hx hy ho hB => ?_, i4⟩
      by_cases o : x + 1 < n + 1 ∨ y < b
      · exact i3 x y hx hy o hB
      · have ex : x = n := by omega
        have ey : y = b := by omega
        subst ex
        subst ey
        by_cases e : q.2 y = q.2 x
        · exact e.symm
        · exact absurd ⟨hB, e⟩ c) n 0 p (by omega) h
  rw [Nat.zero_add] at w
  exact w
theorem grI_all {B : Nat → Nat} {X : Nat → Prop} : ∀ n, (∀ x y, x < n → y < x → 0 < B (x * 6 + y) → (X x ↔ X y)) → grI B X n n (cgN B n) := by
  intro n
  induction n with
  | zero => intro _; exact ⟨fun x h => absurd h (Nat.not_lt_zero x), rfl, fun x y h => absurd h (Nat.not_lt_zero x), fun x y h => absurd h (Nat.not_lt_zero x)⟩
  | succ n ih =>
    intro hX
    rw [cgN_succ]
    obtain ⟨i1, i2, i3, i4⟩ := ih (fun x y hx hy => hX x y (by omega) hy)
    have hlt : ∀ x, x < n → (cgN B n).2 x ≠ n := fun x hx => by have := (i1 x hx).1; omega
    have w := grI_row (B := B) (X := X) (n := n) hX (p := ((cgN B n).1 + 1, va_up (cgN B n).2 n n)) (by
      refine ⟨fun x hx => ?_, ?_, fun x y hx hy ho hB => ?_, fun x y hx hy he => ?_⟩
      · show va_up (cgN B n).2 n n x < n + 1 ∧ va_up (cgN B n).2 n n (va_up (cgN B n).2 n n x) = va_up (cgN B n).2 n n x
        by_cases e : x = n
        · subst e; rw [va_up_self, va_up_self]; exact ⟨by omega, rfl⟩
        · rw [va_up_ne _ _ e]
          have h1 := i1 x (by omega)
          rw [va_up_ne _ _ (by omega)]
          exact ⟨by omega, h1.2⟩
      · show (cgN B n).1 + 1 = fxp (va_up (cgN B n).2 n n) (n + 1)
        rw [fxp, va_up_self, if_pos rfl, i2]
        rw [fxp_congr (l := va_up (cgN B n).2 n n) (l' := (cgN B n).2) n (fun j hj => by rw [va_up_ne _ _ (by omega)])]
      · show va_up (cgN B n).2 n n x = va_up (cgN B n).2 n n y
        have hxn : x < n := by omega
        rw [va_up_ne _ _ (by omega), va_up_ne _ _ (by omega)]
        exact i3 x y hxn hy (by omega) hB
      · have he : va_up (cgN B n).2 n n x = va_up (cgN B n).2 n n y := he
        by_cases ex : x = n
        · by_cases ey : y = n
          · rw [ex, ey]
          · rw [ex, va_up_self, va_up_ne _ _ ey] at he
            exact absurd he.symm (hlt y (by omega))
        · by_cases ey : y = n
          · rw [ey, va_up_self, va_up_ne _ _ ex] at he
            exact absurd he (hlt x (by omega))
          · rw [va_up_ne _ _ ex, va_up_ne _ _ ey] at he
            exact i4 x y (by omega) (by omega) he)
    obtain ⟨j1, j2, j3, j4⟩ := w
    exact ⟨j1, j2, fun x y hx hy _ hB => j3 x y hx hy (by omega) hB, j4⟩
/-! what is reached -/
def pop6 (R : Nat) : Nat := R % 2 + R / 2 % 2 + R / 4 % 2 + R / 8 % 2 + R / 16 % 2 + R / 32 % 2
theorem pop6_le (R : Nat) : pop6 R ≤ 6 := by unfold pop6; omega
theorem pop6_or : ∀ c, c < 15 → ∀ R, R < 64 → R ||| bt2 c = R ∨ pop6 R < pop6 (R ||| bt2 c) := by decide
theorem and_bt2 : ∀ c, c < 15 → ∀ R, R < 64 → (R &&& bt2 c ≠ 0 ↔ R.testBit (up6 c) = true ∨ R.testBit (lo6 c) = true) := by decide
theorem or_bt2 : ∀ c, c < 15 → ∀ R, R < 64 → (R ||| bt2 c).testBit (up6 c) = true ∧ (R ||| bt2 c).testBit (lo6 c) = true := by decide
theorem or_bit (c : Nat) (R i : Nat) : (R ||| bt2 c).testBit i = true ↔ R.testBit i = true ∨ i = up6 c ∨ i = lo6 c := by
  unfold bt2
  rw [Nat.testBit_or, Nat.testBit_or, Nat.one_mul, Nat.one_mul, Nat.testBit_two_pow, Nat.testBit_two_pow]
  simp only [Bool.or_eq_true, decide_eq_true_eq]
  constructor
  · rintro (h | h | h)
    · exact Or.inl h
    · exact Or.inr (Or.inl h.symm)
    · exact Or.inr (Or.inr h.symm)
  · rintro (h | h | h)
    · exact Or.inl h
    · exact Or.inr (Or.inl h.symm)
    · exact Or.inr (Or.inr h.symm)
theorem rcP_lt {cd : Nat → Nat} {P : Nat} (hP : P ≤ 15) {R : Nat} (hR : R < 64) : rcP cd P R < 64 :=
  chR_inv (f := rcS cd) (fun _ R => R < 64) (N := P) (fun c R hc h => rcS_lt (by omega) h) P 0 R (by omega) hR
theorem rcS_ge {cd : Nat → Nat} {c R : Nat} : R ≤ rcS cd c R := by
  unfold rcS
  split
  · exact Nat.left_le_or
  · exact Nat.le_refl _
theorem rcP_pop {cd : Nat → Nat} {P : Nat} (hP : P ≤ 15) {R : Nat} (hR : R < 64) : rcP cd P R = R ∨ pop6 R < pop6 (rcP cd P R) := by
  have w := chR_inv (f := rcS cd) (fun _ R2 => R2 < 64 ∧ (R2 = R ∨ pop6 R < pop6 R2)) (N := P) (fun c R2 hc h => by
    refine ⟨rcS_lt (by omega) h.1, ?_⟩
    unfold rcS
    split
    · rcases pop6_or c (by omega) R2 h.1 with e | e
      · rw [e]; exact h.2
      · rcases h.2 with q | q
        · rw [q] at e ⊢; exact Or.inr e
        · exact Or.inr (by omega)
    · exact h.2) P 0 R (by omega) ⟨hR, Or.inl rfl⟩
  exact w.2
theorem rcP_fix {cd : Nat → Nat} : ∀ (r a R : Nat), chR (rcS cd) r a R = R → ∀ c, a ≤ c → c < a + r → rcS cd c R = R := by
  have ge : ∀ (r a R : Nat), R ≤ chR (rcS cd) r a R := by
    intro r
    induction r with
    | zero => intro a R; exact Nat.le_refl _
    | succ r ih => intro a R; rw [chR]; exact Nat.le_trans rcS_ge (ih _ _)
  intro r
  induction r with
  | zero => intro a R _ c h1 h2; omega
  | succ r ih =>
    intro a R h c h1 h2
    rw [chR] at h
    have g1 := ge r (a + 1) (rcS cd a R)
    have g2 := rcS_ge (cd := cd) (c := a) (R := R)
    have e : rcS cd a R = R := by omega
    by_cases q : c = a
    · rw [q]; exact e
    · rw [e] at h
      exact ih (a + 1) R h c (by omega) (by omega)
theorem rcF_fix {cd : Nat → Nat} {P : Nat} (hP : P ≤ 15) : rcP cd P (rcF cd P) = rcF cd P ∧ rcF cd P < 64 := by
  have w : ∀ (q i R : Nat), R < 64 → (chR (fun _ R => rcP cd P R) q i R < 64 ∧ (rcP cd P (chR (fun _ R => rcP cd P R) q i R) = chR (fun _ R => rcP cd P R) q i R ∨ pop6 R + q ≤ pop6 (chR (fun _ R => rcP cd P R) q i R))) := by
    intro q
    induction q with
    | zero => intro i R hR; exact ⟨hR, Or.inr (Nat.le_refl _)⟩
    | succ q ih =>
      intro i R hR
      rw [chR]
      have h1 := ih (i + 1) (rcP cd P R) (rcP_lt hP hR)
      refine ⟨h1.1, ?_⟩
      rcases h1.2 with e | e
      · exact Or.inl e
      · rcases rcP_pop (cd := cd) hP hR with e2 | e2
        · left
          rw [e2]
          have st : ∀ (q i : Nat), chR (fun _ R => rcP cd P R) q i R = R := by
            intro q
            induction q with
            | zero => intro i; rfl
            | succ q ih => intro i; rw [chR, e2]; exact ih _
          rw [st, e2]
        · right; omega
  have h := w 6 0 1 (by decide)
  refine ⟨?_, h.1⟩
  rcases h.2 with e | e
  · exact e
  · have := pop6_le (chR (fun _ R => rcP cd P R) 6 0 1)
    have e1 : pop6 1 = 1 := by decide
    omega
theorem rcF_inv {cd : Nat → Nat} {P : Nat} (I : Nat → Prop) (h0 : I 1) (hs : ∀ c R, c < P → I R → I (rcS cd c R)) : I (rcF cd P) :=
  chR_inv (f := fun _ R => rcP cd P R) (fun _ R => I R) (N := 6) (fun _ R _ h => chR_inv (f := rcS cd) (fun _ R => I R) (N := P) (fun c R hc h => hs c R hc h) P 0 R (by omega) h) 6 0 1 (by omega) h0
theorem rc_cg {A P : Nat} {cd : Nat → Nat} (hA : 1 ≤ A ∧ A ≤ 6) (hP : P = A * (A - 1) / 2) : rcF cd P = 2 ^ A - 1 ↔ (cgN (mB cd) A).1 ≤ 1 := by
  have hP15 : P ≤ 15 := by
    rw [hP]
    exact (show ∀ a, a ≤ 6 → a * (a - 1) / 2 ≤ 15 by decide) A hA.2
  have hup : ∀ p, p < P → up6 p < A ∧ lo6 p < up6 p := by
    rw [hP]
    exact (show ∀ a, a ≤ 6 → ∀ p, p < a * (a - 1) / 2 → up6 p < a ∧ lo6 p < up6 p by decide) A hA.2
  have hpr : ∀ a, a < A → ∀ b, b < a → pr a b < P := by
    rw [hP]
    exact (show ∀ n, n ≤ 6 → ∀ a, a < n → ∀ b, b < a → pr a b < n * (n - 1) / 2 by decide) A hA.2
  have hb2 : ∀ c, c < P → bt2 c < 2 ^ A := by
    rw [hP]
    exact (show ∀ a, a ≤ 6 → ∀ p, p < a * (a - 1) / 2 → bt2 p < 2 ^ a by decide) A hA.2
  have hat : ∀ c, c < P → mB cd (up6 c * 6 + lo6 c) = cd c := by
    intro c hc
    have u := ul6 c (by omega)
    rw [mB_at (by omega) (by omega), if_pos u.1, u.2.2]
  obtain ⟨fix, hlt⟩ := rcF_fix (cd := cd) hP15
  have full : ∀ R, R < 2 ^ A → (∀ i, i < A → R.testBit i = true) → R = 2 ^ A - 1 := (show ∀ a, a < 7 → ∀ R, R < 2 ^ a → (∀ i, i < a → R.testBit i = true) → R = 2 ^ a - 1 by decide) A (by omega)
  have fullb : ∀ i, i < A → (2 ^ A - 1).testBit i = true := (show ∀ a, a < 7 → ∀ i, i < a → (2 ^ a - 1).testBit i = true by decide) A (by omega)
  constructor
  · intro hf
    obtain ⟨i1, i2, i3, -⟩ := grI_all (B := mB cd) (X := fun _ => True) A (fun _ _ _ _ _ => Iff.rfl)
    have lab : ∀ i, i < A → (rcF cd P).testBit i = true → (cgN (mB cd) A).2 i = (cgN (mB cd) A).2 0 := by
      have w := rcF_inv (cd := cd) (P := P) (fun R => R < 64 ∧ ∀ i, i < A → R.testBit i = true → (cgN (mB cd) A).2 i = (cgN (mB cd) A).2 0) ⟨by decide, fun i hi hb => by
        have : i = 0 := by
          rw [show (1 : Nat) = 2 ^ 0 by decide, Nat.testBit_two_pow] at hb
          have := of_decide_eq_true hb
          omega
        rw [this]⟩ (fun c R hc h => by
        refine ⟨rcS_lt (by omega) h.1, fun i hi hb => ?_⟩
        unfold rcS at hb
        split at hb
        · rename_i q
          have u := hup c hc
          have adj := i3 (up6 c) (lo6 c) u.1 u.2 (by omega) (by rw [hat c hc]; exact q.1)
          have e0 : (cgN (mB cd) A).2 (up6 c) = (cgN (mB cd) A).2 0 ∧ (cgN (mB cd) A).2 (lo6 c) = (cgN (mB cd) A).2 0 := by
            rcases (and_bt2 c (by omega) R h.1).mp q.2 with z | z
            · have := h.2 _ u.1 z
              exact ⟨this, by rw [← adj]; exact this⟩
            · have := h.2 _ (by omega) z
              exact ⟨by rw [adj]; exact this, this⟩
          rcases (or_bit c R i).mp hb with z | z | z
          · exact h.2 i hi z
          · rw [z]; exact e0.1
          · rw [z]; exact e0.2
        · exact h.2 i hi hb)
      exact w.2
    rw [i2]
    by_cases q : fxp (cgN (mB cd) A).2 A ≤ 1
    · exact q
    · exfalso
      -- two atoms that bear their own number
      have two : ∀ n, n ≤ A → ∀ l : Nat → Nat, (∀ i, i < n → l i = l 0) → fxp l n ≤ 1 := by
        intro n
        induction n with
        | zero => intro _ l _; simp [fxp]
        | succ n ih =>
          intro hn l hl
          have h1 := ih (by omega) l (fun i hi => hl i (by omega))
          rw [fxp]
          by_cases c : l n = n
          · rw [if_pos c]
            have z : ∀ m, m ≤ n → fxp l m = 0 := by
              intro m
              induction m with
              | zero => intro _; rfl
              | succ m ihm =>
                intro hm
                rw [fxp, ihm (by omega), if_neg]
                · rfl
                · intro e
                  have e1 := hl m (by omega)
                  have e2 := hl n (by omega)
                  omega
            rw [z n (by omega)]
            omega
          · rw [if_neg c]; omega
      exact q (two A (Nat.le_refl _) _ (fun i hi => lab i hi (by rw [hf]; exact fullb i hi)))
  · intro hc
    have bnd : rcF cd P < 2 ^ A := rcF_inv (cd := cd) (P := P) (fun R => R < 2 ^ A) ((show ∀ a, a < 7 → 1 ≤ a → 1 < 2 ^ a by decide) A (by omega) hA.1) (fun c R hc h => by
      unfold rcS
      split
      · exact Nat.or_lt_two_pow h (hb2 c hc)
      · exact h)
    have b0 : (rcF cd P).testBit 0 = true := rcF_inv (cd := cd) (P := P) (fun R => R.testBit 0 = true) (by decide) (fun c R hc h => by
      unfold rcS
      split
      · exact (or_bit c R 0).mpr (Or.inl h)
      · exact h)
    have clo : ∀ x y, x < A → y < x → 0 < mB cd (x * 6 + y) → ((rcF cd P).testBit x = true ↔ (rcF cd P).testBit y = true) := by
      intro x y hx hy hB
      have hp := hpr x hx y hy
      have hu := ul6_pr x (by omega) y hy
      have hS := rcP_fix (cd := cd) P 0 (rcF cd P) fix (pr x y) (by omega) (by omega)
      rw [mB_at (by omega) (by omega), if_pos hy] at hB
      unfold rcS at hS
      have an := and_bt2 (pr x y) (by omega) (rcF cd P) hlt
      have on := or_bt2 (pr x y) (by omega) (rcF cd P) hlt
      rw [hu.1, hu.2] at an on
      by_cases q : rcF cd P &&& bt2 (pr x y) ≠ 0
      · rw [if_pos ⟨hB, q⟩] at hS
        rw [hS] at on
        exact ⟨fun _ => on.2, fun _ => on.1⟩
      · exact ⟨fun h => absurd (an.mpr (Or.inl h)) q, fun h => absurd (an.mpr (Or.inr h)) q⟩
    obtain ⟨i1, i2, -, i4⟩ := grI_all (B := mB cd) (X := fun x => (rcF cd P).testBit x = true) A clo
    rw [i2] at hc
    refine full _ bnd (fun i hi => ?_)
    have e : (cgN (mB cd) A).2 i = (cgN (mB cd) A).2 0 := by
      by_cases q : (cgN (mB cd) A).2 i = (cgN (mB cd) A).2 0
      · exact q
      · have h1 := i1 i hi
        have h2 := i1 0 (by omega)
        have := fxp_two q h1.2 h2.2 A h1.1 h2.1
        omega
    exact (i4 i 0 hi (by omega) e).mpr b0
