/-! the greatest code: the class's search, which leaves numberings out, and the reference's, which tries all, find the same -/
theorem pq_rw {cd B ch : Nat → Nat} {k a : Nat} : ∀ m, m ≤ k → (∀ j, j < m → cd (pr k j) = B (a * 6 + ch j)) → pq cd (pr k m) = pq cd (pr k 0) * 4 ^ m + mj_rw B ch a m := by
  intro m
  induction m with
  | zero => intro _ _; rw [mj_rw]; omega
  | succ m ih =>
    intro hm h
    have e : pr k (m + 1) = pr k m + 1 := by unfold pr; omega
    rw [e, pq, ih (by omega) (fun j hj => h j (by omega)), mj_rw, h m (by omega), Nat.pow_succ, ← Nat.mul_assoc]
    generalize pq cd (pr k 0) * 4 ^ m = x
    omega
theorem lx_pq {a b : Nat → Nat} : ∀ P, (∀ j, j < P → a j < 4 ∧ b j < 4) → (lx (fun p => (a p : Int)) (fun p => (b p : Int)) P = 1 ∧ pq b P < pq a P) ∨ (lx (fun p => (a p : Int)) (fun p => (b p : Int)) P = 0 ∧ pq b P = pq a P) ∨ (lx (fun p => (a p : Int)) (fun p => (b p : Int)) P = -1 ∧ pq a P < pq b P) := by
  intro P
  induction P with
  | zero => intro _; exact Or.inr (Or.inl ⟨rfl, rfl⟩)
  | succ P ih =>
    intro h
    have hP := h P (by omega)
    rw [lx, pq, pq]
    rcases ih (fun j hj => h j (by omega)) with ⟨q1, q2⟩ | ⟨q1, q2⟩ | ⟨q1, q2⟩
    · rw [q1]; exact Or.inl ⟨if_neg (by decide), by omega⟩
    · rw [q1, if_pos rfl]
      by_cases c1 : b P < a P
      · exact Or.inl ⟨if_pos (by omega), by omega⟩
      · rw [if_neg (by omega)]
        by_cases c2 : a P < b P
        · exact Or.inr (Or.inr ⟨if_pos (by omega), by omega⟩)
        · exact Or.inr (Or.inl ⟨if_neg (by omega), by omega⟩)
    · rw [q1]; exact Or.inr (Or.inr ⟨if_neg (by decide), by omega⟩)
theorem lx_neg {a b : Nat → Int} : ∀ P, (∀ j, j < P + 1 → b j < a j) → lx a b (P + 1) = 1 := by
  intro P
  induction P with
  | zero => intro h; rw [lx, lx, if_pos rfl, if_pos (h 0 (by omega))]
  | succ P ih =>
    intro h
    rw [lx, ih (fun j hj => h j (by omega))]
    exact if_neg (by decide)
def ndN (BN ch : Nat → Nat) (p : Nat) : Nat := BN (ch (up6 p) * 6 + ch (lo6 p))
def gmR (P : Nat) (p1 : Nat) (st : Bool × (Nat → Int)) : Prop := (st.1 = false ∧ p1 = 0 ∧ ∀ p, p < P → st.2 p = -1) ∨ (st.1 = true ∧ ∃ cd : Nat → Nat, (∀ j, j < P → cd j < 4) ∧ p1 = pk cd P ∧ ∀ p, p < P → st.2 p = cd p)
theorem chR_rel {α β : Type} {f : Nat → α → α} {g : Nat → β → β} (R : α → β → Prop) {N : Nat} (h : ∀ a x y, a < N → R x y → R (f a x) (g a y)) : ∀ (r a : Nat) (x : α) (y : β), a + r ≤ N → R x y → R (chR f r a x) (chR g r a y) := by
  intro r
  induction r with
  | zero => intro a x y _ hr; exact hr
  | succ r ih => intro a x y ha hr; rw [chR, chR]; exact ih _ _ _ (by omega) (h a x y (by omega) hr)
theorem chR_same {α : Type} {f : Nat → α → α} {x : α} : ∀ (r a : Nat), (∀ b, a ≤ b → b < a + r → f b x = x) → chR f r a x = x := by
  intro r
  induction r with
  | zero => intro a _; rfl
  | succ r ih => intro a h; rw [chR, h a (by omega) (by omega)]; exact ih (a + 1) (fun b h1 h2 => h b (by omega) (by omega))
theorem up6_lt : ∀ k, k ≤ 6 → ∀ p, p < pr k 0 → up6 p < k ∧ lo6 p < k := by decide
theorem ndN_row {BN ch : Nat → Nat} {k a : Nat} (hk : k < 6) : pq (ndN BN (va_up ch k a)) (pr (k + 1) 0) = pq (ndN BN ch) (pr k 0) * 4 ^ k + mj_rw BN ch a k := by
  rw [(pr_row k hk).2.2, pq_rw (B := BN) (ch := ch) (a := a) k (Nat.le_refl _) (fun j hj => by
    have u := ul6_pr k hk j hj
    unfold ndN
    rw [u.1, u.2, va_up_self, va_up_ne _ _ (by omega)])]
  rw [pq_congr (cd' := ndN BN ch) (pr k 0) (fun q hq => by
    have u := up6_lt k (by omega) q hq
    unfold ndN
    rw [va_up_ne _ _ (by omega), va_up_ne _ _ (by omega)])]
section GM
variable {n P : Nat} {KM2 KW BN : Nat → Nat} {B : Nat → Int}
theorem ndN_lt {ch : Nat → Nat} {k : Nat} (hBN : ∀ j, j < 36 → B j = BN j ∧ BN j < 4) (hk : k ≤ 6) (hch : ∀ j, j < k → ch j < 6) : ∀ q, q < pr k 0 → ndN BN ch q < 4 ∧ ndf B ch q = (ndN BN ch q : Nat) := by
  intro q hq
  have u := up6_lt k hk q hq
  have c1 := hch _ u.1
  have c2 := hch _ u.2
  have h := hBN (ch (up6 q) * 6 + ch (lo6 q)) (by omega)
  exact ⟨h.2, h.1⟩
theorem gm_low (hn : n ≤ 6) (hP : P = pr n 0) (hBN : ∀ j, j < 36 → B j = BN j ∧ BN j < 4) {cd : Nat → Nat} (hcd : ∀ j, j < P → cd j < 4) {st : Bool × (Nat → Int)} (hs1 : st.1 = true) (hs2 : ∀ p, p < P → st.2 p = cd p) : ∀ (r k : Nat) (ch : Nat → Nat) (tk : Nat → Bool), k + r = n → (∀ j, j < k → ch j < 6) → pq (ndN BN ch) (pr k 0) < pq cd (pr k 0) → gmI n KM2 KW B r k ch tk st = st := by
  intro r
  induction r with
  | zero =>
    intro k ch tk hk hch hlt
    have : k = n := by omega
    subst this
    rw [← hP] at hlt
    have nl := ndN_lt (k := k) hBN hn hch
    rw [← hP] at nl
    have e := lx_congr (a := ndf B ch) (a' := fun p => (ndN BN ch p : Int)) (b := st.2) (b' := fun p => (cd p : Int)) P (fun q hq => ⟨(nl q hq).2, hs2 q hq⟩)
    have l1 : lx (ndf B ch) st.2 P ≠ 1 := by
      rw [e]
      rcases lx_pq (a := ndN BN ch) (b := cd) P (fun j hj => ⟨(nl j hj).1, hcd j hj⟩) with ⟨q1, q2⟩ | ⟨q1, q2⟩ | ⟨q1, q2⟩
      · omega
      · omega
      · rw [q1]; decide
    rw [gmI, ← hP]
    have : tkF P (ndf B ch) st.2 = st.2 := by
      funext p
      unfold tkF
      rw [if_neg (fun z => l1 z.2)]
    rw [this, ← hs1]
  | succ r ih =>
    intro k ch tk hk hch hlt
    rw [gmI]
    refine chR_same n 0 (fun a _ ha => ?_)
    split
    · refine ih (k + 1) _ _ (by omega) (fun j hj => ?_) ?_
      · by_cases e : j = k
        · subst e; rw [va_up_self]; omega
        · rw [va_up_ne _ _ e]; exact hch j (by omega)
      · have hkk : pr (k + 1) 0 = pr k 0 + k := (show ∀ k, k < 6 → pr (k + 1) 0 = pr k 0 + k by decide) k (by omega)
        have hle : pr (k + 1) 0 ≤ P := by rw [hP]; exact (show ∀ n, n ≤ 6 → ∀ k, k < n → pr (k + 1) 0 ≤ pr n 0 by decide) n hn k (by omega)
        have h1 := ndN_row (BN := BN) (ch := ch) (k := k) (a := a) (by omega)
        have h2 := mj_rw_lt (B := BN) (ch := ch) (a := a) (by omega) (fun j hj => (hBN j hj).2) k hch
        have h3 := pq_div (cd := cd) (pr k 0) k (fun j hj => hcd j (by omega))
        have h4 := Nat.div_mul_le_self (pq cd (pr k 0 + k)) (4 ^ k)
        rw [h3] at h4
        rw [h1, hkk]
        have h5 : (pq (ndN BN ch) (pr k 0) + 1) * 4 ^ k ≤ pq cd (pr k 0) * 4 ^ k := Nat.mul_le_mul_right _ hlt
        rw [Nat.add_mul, Nat.one_mul] at h5
        omega
    · rfl
theorem gm_ch (hn : n ≤ 6) (hP : P = pr n 0) (hBN : ∀ j, j < 36 → B j = BN j ∧ BN j < 4) : ∀ (r k : Nat) (ch : Nat → Nat) (tk : Nat → Bool) (p : Nat × Nat) (st : Bool × (Nat → Int)), k + r = n → (∀ j, j < k → ch j < 6) → gmR P p.1 st → gmR P (chI n KM2 BN KW r k (pk (ndN BN ch) (pr k 0)) ch tk p).1 (gmI n KM2 KW B r k ch tk st) := by
  have P15 : P ≤ 15 := by rw [hP]; exact (pr_n0 n hn).1
  intro r
  induction r with
  | zero =>
    intro k ch tk p st hk hch hR
    have : k = n := by omega
    subst this
    have nl := ndN_lt (k := k) hBN hn hch
    rw [← hP] at nl
    rw [chI, gmI, ← hP]
    have hnt : (mj_nt (pk (ndN BN ch) P) p).1 = if p.1 < pk (ndN BN ch) P then pk (ndN BN ch) P else p.1 := by
      unfold mj_nt
      split <;> rfl
    rw [hnt]
    rcases hR with ⟨s1, s2, s3⟩ | ⟨s1, cd, s2, s3, s4⟩
    · refine Or.inr ⟨rfl, ndN BN ch, fun j hj => (nl j hj).1, ?_, fun q hq => ?_⟩
      · rw [s2]
        split <;> omega
      · have l1 : lx (ndf B ch) st.2 P = 1 := by
          obtain ⟨P', e⟩ : ∃ P', P = P' + 1 := ⟨P - 1, by omega⟩
          rw [e]
          refine lx_neg P' (fun j hj => ?_)
          rw [s3 j (by omega), (nl j (by omega)).2]
          omega
        show tkF P (ndf B ch) st.2 q = _
        unfold tkF
        rw [if_pos ⟨hq, l1⟩]
        exact (nl q hq).2
    · have e := lx_congr (a := ndf B ch) (a' := fun p => (ndN BN ch p : Int)) (b := st.2) (b' := fun p => (cd p : Int)) P (fun q hq => ⟨(nl q hq).2, s4 q hq⟩)
      have hpos : 0 < 4 ^ (15 - P) := Nat.pow_pos (by decide)
      rcases lx_pq (a := ndN BN ch) (b := cd) P (fun j hj => ⟨(nl j hj).1, s2 j hj⟩) with ⟨q1, q2⟩ | ⟨q1, q2⟩ | ⟨q1, q2⟩
      · refine Or.inr ⟨rfl, ndN BN ch, fun j hj => (nl j hj).1, ?_, fun q hq => ?_⟩
        · rw [if_pos]
          rw [s3]
          exact Nat.mul_lt_mul_of_pos_right q2 hpos
        · show tkF P (ndf B ch) st.2 q = _
          unfold tkF
          rw [if_pos ⟨hq, e.trans q1⟩]
          exact (nl q hq).2
      · refine Or.inr ⟨rfl, cd, s2, ?_, fun q hq => ?_⟩
        · rw [if_neg, s3]
          rw [s3]
          unfold pk
          rw [q2]
          exact Nat.lt_irrefl _
        · show tkF P (ndf B ch) st.2 q = _
          unfold tkF
          rw [if_neg (fun z => by rw [e, q1] at z; exact absurd z.2 (by decide))]
          exact s4 q hq
      · refine Or.inr ⟨rfl, cd, s2, ?_, fun q hq => ?_⟩
        · rw [if_neg, s3]
          rw [s3]
          unfold pk
          have := Nat.mul_lt_mul_of_pos_right q2 hpos
          omega
        · show tkF P (ndf B ch) st.2 q = _
          unfold tkF
          rw [if_neg (fun z => by rw [e, q1] at z; exact absurd z.2 (by decide))]
          exact s4 q hq
  | succ r ih =>
    intro k ch tk p st hk hch hR
    rw [chI, gmI]
    refine chR_rel (fun (p : Nat × Nat) (st : Bool × (Nat → Int)) => gmR P p.1 st) (N := n) (fun a p st ha hR => ?_) n 0 p st (by omega) hR
    by_cases q1 : tk a = false ∧ KM2 a = KW k
    · rw [if_pos q1, if_pos q1]
      have hk6 : k < 6 := by omega
      have hrl := mj_rw_lt (B := BN) (ch := ch) (a := a) (by omega) (fun j hj => (hBN j hj).2) k hch
      have hrow := ndN_row (BN := BN) (ch := ch) (k := k) (a := a) hk6
      have hnext : pk (ndN BN ch) (pr k 0) ||| mj_rw BN ch a k * 2 ^ mj_sh k = pk (ndN BN (va_up ch k a)) (pr (k + 1) 0) := by
        rw [or_pk hk6 hrl, ← hrow]
        unfold pk
        rw [(pr_row k hk6).2.2]
      have hch2 : ∀ j, j < k + 1 → va_up ch k a j < 6 := by
        intro j hj
        by_cases e : j = k
        · subst e; rw [va_up_self]; omega
        · rw [va_up_ne _ _ e]; exact hch j (by omega)
      rw [hnext]
      by_cases q2 : p.1 / 2 ^ mj_sh k ≤ pk (ndN BN (va_up ch k a)) (pr (k + 1) 0) / 2 ^ mj_sh k
      · rw [if_pos q2]
        exact ih (k + 1) (va_up ch k a) (va_up tk a true) p st (by omega) hch2 hR
      · rw [if_neg q2]
        rcases hR with ⟨s1, s2, s3⟩ | ⟨s1, cd, s2, s3, s4⟩
        · exfalso
          rw [s2, Nat.zero_div] at q2
          exact q2 (Nat.zero_le _)
        · have hle : pr k k ≤ P := by rw [hP]; exact (show ∀ n, n ≤ 6 → ∀ k, k < n → pr k k ≤ pr n 0 by decide) n hn k (by omega)
          rw [s3, sh_row k hk6, pcd_div P15 hle s2] at q2
          have e2 : pk (ndN BN (va_up ch k a)) (pr (k + 1) 0) / 4 ^ (15 - pr k k) = pq (ndN BN (va_up ch k a)) (pr (k + 1) 0) := by
            unfold pk
            rw [(pr_row k hk6).2.2, Nat.mul_div_cancel _ (Nat.pow_pos (by decide))]
          rw [e2] at q2
          rw [gm_low hn hP hBN s2 s1 s4 r (k + 1) (va_up ch k a) (va_up tk a true) (by omega) hch2 (by rw [(pr_row k hk6).2.2] at q2 ⊢; omega)]
          exact Or.inr ⟨s1, cd, s2, s3, s4⟩
    · rw [if_neg q1, if_neg q1]
      exact hR
end GM
/-! is there a numbering at all -/
/-- how many atoms of the kind x are not taken -/
def cU (tk : Nat → Bool) (K : Nat → Nat) (x : Nat) : Nat → Nat
  | 0 => 0
  | a + 1 => cU tk K x a + if tk a = false ∧ K a = x then 1 else 0
def cF (tk : Nat → Bool) : Nat → Nat
  | 0 => 0
  | a + 1 => cF tk a + if tk a = false then 1 else 0
/-- how many of the numbers from k on want the kind x -/
def cR (K : Nat → Nat) (x : Nat) : Nat → Nat → Nat
  | 0, _ => 0
  | r + 1, k => cR K x r (k + 1) + if K k = x then 1 else 0
theorem cU_up {tk : Nat → Bool} {K : Nat → Nat} {a x : Nat} (ha : tk a = false) : ∀ n, a < n → cU (va_up tk a true) K x n + (if K a = x then 1 else 0) = cU tk K x n := by
  have sm : ∀ n, n ≤ a → cU (va_up tk a true) K x n = cU tk K x n := by
    intro n
    induction n with
    | zero => intro _; rfl
    | succ n ih => intro h; rw [cU, cU, ih (by omega), va_up_ne _ _ (by omega)]
  intro n
  induction n with
  | zero => intro h; exact absurd h (Nat.not_lt_zero a)
  | succ n ih =>
    intro h
    rw [cU, cU]
    by_cases e : a = n
    · subst e
      rw [sm a (by omega), va_up_self, if_neg (fun z => by simp at z)]
      by_cases q : K a = x
      · rw [if_pos q, if_pos ⟨ha, q⟩]
      · rw [if_neg q, if_neg (fun z => q z.2)]
    · have := ih (by omega)
      rw [va_up_ne _ _ (by omega)]
      omega
theorem cF_up {tk : Nat → Bool} {a : Nat} (ha : tk a = false) : ∀ n, a < n → cF (va_up tk a true) n + 1 = cF tk n := by
  have sm : ∀ n, n ≤ a → cF (va_up tk a true) n = cF tk n := by
    intro n
    induction n with
    | zero => intro _; rfl
    | succ n ih => intro h; rw [cF, cF, ih (by omega), va_up_ne _ _ (by omega)]
  intro n
  induction n with
  | zero => intro h; exact absurd h (Nat.not_lt_zero a)
  | succ n ih =>
    intro h
    rw [cF, cF]
    by_cases e : a = n
    · subst e
      rw [sm a (by omega), va_up_self, if_neg (by simp), if_pos ha]
    · have := ih (by omega)
      rw [va_up_ne _ _ (by omega)]
      omega
theorem cU_le {tk : Nat → Bool} {K : Nat → Nat} {x : Nat} : ∀ n, cU tk K x n ≤ cF tk n := by
  intro n
  induction n with
  | zero => exact Nat.le_refl _
  | succ n ih =>
    rw [cU, cF]
    by_cases q : tk n = false
    · rw [if_pos q]; split <;> omega
    · rw [if_neg q, if_neg (fun z => q z.1)]; omega
theorem cU_pos {tk : Nat → Bool} {K : Nat → Nat} {x : Nat} : ∀ n, 0 < cU tk K x n → ∃ a, a < n ∧ tk a = false ∧ K a = x := by
  intro n
  induction n with
  | zero => intro h; exact absurd h (Nat.lt_irrefl 0)
  | succ n ih =>
    intro h
    rw [cU] at h
    by_cases q : tk n = false ∧ K n = x
    · exact ⟨n, by omega, q⟩
    · rw [if_neg q] at h
      obtain ⟨a, h1, h2⟩ := ih (by omega)
      exact ⟨a, by omega, h2⟩
section GX
variable {n : Nat} {KM2 KW : Nat → Nat} {B : Nat → Int}
theorem gm_mono : ∀ (r k : Nat) (ch : Nat → Nat) (tk : Nat → Bool) (st : Bool × (Nat → Int)), st.1 = true → (gmI n KM2 KW B r k ch tk st).1 = true := by
  intro r
  induction r with
  | zero => intro k ch tk st _; rfl
  | succ r ih =>
    intro k ch tk st h
    rw [gmI]
    refine chR_inv (fun _ (st : Bool × (Nat → Int)) => st.1 = true) (N := n) (fun a st _ h => ?_) n 0 st (by omega) h
    split
    · exact ih _ _ _ _ h
    · exact h
theorem gm_has : ∀ (r k : Nat) (ch : Nat → Nat) (tk : Nat → Bool) (st : Bool × (Nat → Int)), k + r = n → (∀ x, cR KW x r k ≤ cU tk KM2 x n) → (gmI n KM2 KW B r k ch tk st).1 = true := by
  intro r
  induction r with
  | zero => intro k ch tk st _ _; rfl
  | succ r ih =>
    intro k ch tk st hk h
    have h0 := h (KW k)
    rw [cR, if_pos rfl] at h0
    obtain ⟨a, a1, a2, a3⟩ := cU_pos n (show 0 < cU tk KM2 (KW k) n by omega)
    rw [gmI]
    have w := chR_inv (f := fun a (st : Bool × (Nat → Int)) => if tk a = false ∧ KM2 a = KW k then gmI n KM2 KW B r (k + 1) (va_up ch k a) (va_up tk a true) st else st) (fun b (st : Bool × (Nat → Int)) => a < b → st.1 = true) (N := n) (fun b st hb hI hab => by
      by_cases e : b = a
      · subst e
        rw [if_pos ⟨a2, a3⟩]
        refine ih (k + 1) _ _ st (by omega) (fun x => ?_)
        have h1 := h x
        have h2 := cU_up (K := KM2) (x := x) a2 n a1
        rw [cR] at h1
        rw [a3] at h2
        omega
      · have hs := hI (by omega)
        split
        · exact gm_mono _ _ _ _ _ hs
        · exact hs) n 0 st (by omega) (fun z => absurd z (Nat.not_lt_zero a))
    rw [Nat.zero_add] at w
    exact w a1
theorem gm_not : ∀ (r k : Nat) (ch : Nat → Nat) (tk : Nat → Bool) (st : Bool × (Nat → Int)), k + r = n → cF tk n = r → (gmI n KM2 KW B r k ch tk st).1 = true → st.1 = true ∨ ∀ x, cU tk KM2 x n = cR KW x r k := by
  intro r
  induction r with
  | zero =>
    intro k ch tk st hk hf _
    refine Or.inr (fun x => ?_)
    have := cU_le (tk := tk) (K := KM2) (x := x) n
    rw [cR]
    omega
  | succ r ih =>
    intro k ch tk st hk hf h
    rw [gmI] at h
    have w := chR_inv (f := fun a (st : Bool × (Nat → Int)) => if tk a = false ∧ KM2 a = KW k then gmI n KM2 KW B r (k + 1) (va_up ch k a) (va_up tk a true) st else st) (fun _ (st' : Bool × (Nat → Int)) => st'.1 = true → st.1 = true ∨ ∀ x, cU tk KM2 x n = cR KW x (r + 1) k) (N := n) (fun b st' hb hI hs => by
      by_cases q : tk b = false ∧ KM2 b = KW k
      · rw [if_pos q] at hs
        rcases ih (k + 1) _ _ st' (by omega) (by have := cF_up q.1 n hb; omega) hs with z | z
        · exact hI z
        · refine Or.inr (fun x => ?_)
          have h2 := cU_up (K := KM2) (x := x) q.1 n hb
          rw [z x, q.2] at h2
          rw [cR]
          omega
      · rw [if_neg q] at hs
        exact hI hs) n 0 st (by omega) (fun z => Or.inl z)
    exact w h
end GX
theorem cF_none : ∀ n, cF (fun _ => false) n = n := by
  intro n
  induction n with
  | zero => rfl
  | succ n ih => rw [cF, ih, if_pos rfl]
theorem cU_cnt {K : Nat → Nat} {x : Nat} : ∀ n, cU (fun _ => false) K x n = mj_cnt (fun i => (K i : Int)) x n := by
  intro n
  induction n with
  | zero => rfl
  | succ n ih =>
    rw [cU, mj_cnt, ih]
    by_cases q : K n = x
    · rw [if_pos ⟨rfl, q⟩, if_pos (by omega)]
    · rw [if_neg (fun z => q z.2), if_neg (by omega)]
theorem cR_cnt {K : Nat → Nat} {x : Nat} : ∀ r k, mj_cnt (fun i => (K i : Int)) x (k + r) = mj_cnt (fun i => (K i : Int)) x k + cR K x r k := by
  intro r
  induction r with
  | zero => intro k; rw [cR]; rfl
  | succ r ih =>
    intro k
    have h := ih (k + 1)
    rw [show k + 1 + r = k + (r + 1) by omega, mj_cnt] at h
    rw [cR, h]
    by_cases q : K k = x
    · rw [if_pos q, if_pos (by omega)]; omega
    · rw [if_neg q, if_neg (by omega)]; omega
/-- a numbering is there just if each kind is there as often as it is wanted -/
theorem gm_iff {n : Nat} {KM2 KW : Nat → Nat} {B : Nat → Int} : (gmI n KM2 KW B n 0 (fun _ => 0) (fun _ => false) (false, fun _ => -1)).1 = true ↔ ∀ j, j < n → mj_cnt (fun i => (KM2 i : Int)) (KW j) n = mj_cnt (fun i => (KW i : Int)) (KW j) n := by
  have c0 : ∀ x, cR KW x n 0 = mj_cnt (fun i => (KW i : Int)) x n := by
    intro x
    have := cR_cnt (K := KW) (x := x) n 0
    rw [Nat.zero_add] at this
    rw [this, mj_cnt]
    omega
  constructor
  · intro h j _
    rcases gm_not n 0 _ _ _ (by omega) (cF_none n) h with z | z
    · exact absurd z (by decide)
    · rw [← cU_cnt, z, c0]
  · intro h
    refine gm_has n 0 _ _ _ (by omega) (fun x => ?_)
    rw [c0, cU_cnt]
    by_cases q : 0 < mj_cnt (fun i => (KW i : Int)) x n
    · have ex : ∀ m, 0 < mj_cnt (fun i => (KW i : Int)) x m → ∃ j, j < m ∧ KW j = x := by
        intro m
        induction m with
        | zero => intro h; exact absurd h (Nat.lt_irrefl 0)
        | succ m ih =>
          intro h
          rw [mj_cnt] at h
          by_cases e : KW m = x
          · exact ⟨m, by omega, e⟩
          · rw [if_neg (by omega)] at h
            obtain ⟨j, j1, j2⟩ := ih (by omega)
            exact ⟨j, by omega, j2⟩
      obtain ⟨j, j1, j2⟩ := ex n q
      rw [← j2, h j j1]
      exact Nat.le_refl _
    · omega
