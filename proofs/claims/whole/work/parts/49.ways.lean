/-! numberings that share the greatest code; what the codes of a list are -/
theorem or_row {x y k : Nat} (hy : y < 4 ^ k) : x * 4 ^ k ||| y = x * 4 ^ k + y := by
  have e : (4 : Nat) ^ k = 2 ^ (2 * k) := by rw [Nat.pow_mul]
  rw [e] at hy ⊢
  rw [Nat.mul_comm x, ← Nat.two_pow_add_eq_or_of_lt hy]
theorem pr_row : ∀ k, k < 6 → 15 - pr k 0 = k + (15 - pr k k) ∧ pr k k ≤ 15 ∧ pr (k + 1) 0 = pr k k := by decide
/-- a prefix with one more row, whatever the row is -/
theorem or_pk {cd : Nat → Nat} {k row : Nat} (hk : k < 6) (hr : row < 4 ^ k) : pk cd (pr k 0) ||| row * 2 ^ mj_sh k = (pq cd (pr k 0) * 4 ^ k + row) * 4 ^ (15 - pr k k) := by
  rw [sh_row k hk]
  unfold pk
  rw [(pr_row k hk).1, Nat.pow_add, ← Nat.mul_assoc]
  have e : (4 : Nat) ^ (15 - pr k k) = 2 ^ (2 * (15 - pr k k)) := by rw [Nat.pow_mul]
  rw [← or_row hr, e, ← Nat.shiftLeft_eq, ← Nat.shiftLeft_eq, ← Nat.shiftLeft_eq, Nat.shiftLeft_or_distrib]
theorem chR_nbR {g : Nat → Nat × Nat → Nat × Nat} {f : Nat → Nat → Option Nat} {c0 : Nat} : ∀ (r a w w' : Nat), (∀ x w w', a ≤ x → x < a + r → f x w = some w' → g x (c0, w) = (c0, w')) → nbR f r a w = some w' → chR g r a (c0, w) = (c0, w') := by
  intro r
  induction r with
  | zero => intro a w w' _ h; have h : some w = some w' := h; injection h with h; rw [← h]; rfl
  | succ r ih =>
    intro a w w' hf h
    rw [nbR] at h
    split at h
    · exact absurd h (by simp)
    · rename_i w1 hw1
      rw [chR, hf a w w1 (by omega) (by omega) hw1]
      exact ih (a + 1) w1 w' (fun x w w' h1 h2 => hf x w w' (by omega) (by omega)) h
theorem ch_nb {A P : Nat} {KM B cd : Nat → Nat} (hA : A ≤ 6) (hP : P = pr A 0) (hP15 : P ≤ 15) (hcd : ∀ j, j < P → cd j < 4) (hx : mxB B cd P) (hB : ∀ j, j < 36 → B j < 4) : ∀ (r k : Nat) (ch : Nat → Nat) (tk : Nat → Bool) (w w' : Nat), k + r = A → (∀ j, j < k → ch j < 6) → nbI A KM B r k ch tk w = some w' → chI A KM B KM r k (pk cd (pr k 0)) ch tk (pk cd P, w) = (pk cd P, w') := by
  intro r
  induction r with
  | zero =>
    intro k ch tk w w' hk hch h
    have h : some (w + 1) = some w' := h
    injection h with hww
    have : k = A := by omega
    subst this
    rw [chI, ← hP]
    unfold mj_nt
    rw [if_neg (Nat.lt_irrefl _), ← hww]
  | succ r ih =>
    intro k ch tk w w' hk hch h
    rw [nbI] at h
    rw [chI]
    refine chR_nbR A 0 w w' (fun x w w' _ hxA hf => ?_) h
    have hkk : pr k k ≤ P := by
      rw [hP]
      exact (show ∀ a, a ≤ 6 → ∀ k, k < a → pr k k ≤ pr a 0 by decide) A hA k (by omega)
    have hown := ow_row (k := k) (by omega) hP15 hkk hcd hx hB
    have hrl := mj_rw_lt (ch := ch) (a := x) (by omega) hB k hch
    have hol := mj_rw_lt (ch := fun j => j) (a := k) (by omega) hB k (fun j hj => by show j < 6; omega)
    have hpq := rw_row (B := B) (cd := cd) (k := k) (by omega) k (Nat.le_refl _) (fun a b ha hb h => hx a b ha hb (by omega))
    have hpos : 0 < 4 ^ (15 - pr k k) := Nat.pow_pos (by decide)
    have d1 : (pk cd P, w).1 / 2 ^ mj_sh k = pq cd (pr k k) := by
      show pk cd P / 2 ^ mj_sh k = _
      rw [sh_row k (by omega)]
      exact pcd_div hP15 hkk hcd
    have d2 : (pk cd (pr k 0) ||| mj_rw B ch x k * 2 ^ mj_sh k) / 2 ^ mj_sh k = pq cd (pr k 0) * 4 ^ k + mj_rw B ch x k := by
      rw [or_pk (by omega) hrl, sh_row k (by omega), Nat.mul_div_cancel _ hpos]
    by_cases q1 : tk x = false ∧ KM x = KM k
    · rw [if_pos q1] at hf ⊢
      rw [d1, d2, hpq]
      by_cases q2 : mj_rw B (fun j => j) k k < mj_rw B ch x k
      · rw [if_pos q2] at hf
        exact absurd hf (by simp)
      · rw [if_neg q2] at hf
        by_cases q3 : mj_rw B ch x k = mj_rw B (fun j => j) k k
        · rw [if_pos q3] at hf
          rw [if_pos (by omega)]
          have hnext : pk cd (pr k 0) ||| mj_rw B ch x k * 2 ^ mj_sh k = pk cd (pr (k + 1) 0) := by
            rw [or_pk (by omega) hrl, q3, ← hpq, (pr_row k (by omega)).2.2]
            rfl
          rw [hnext]
          exact ih (k + 1) (va_up ch k x) (va_up tk x true) w w' (by omega) (fun j hj => by
            by_cases e : j = k
            · subst e; rw [va_up_self]; omega
            · rw [va_up_ne _ _ e]; exact hch j (by omega)) hf
        · rw [if_neg q3] at hf
          rw [if_neg (by omega)]
          injection hf with hf
          rw [hf]
    · rw [if_neg q1] at hf ⊢
      injection hf with hf
      rw [hf]
/-- the bonds of an atom among the pairs before p -/
def rsp (cd : Nat → Nat) (j : Nat) : Nat → Nat
  | 0 => 0
  | p + 1 => rsp cd j p + if up6 p = j ∨ lo6 p = j then cd p else 0
theorem rsp_congr {cd cd' : Nat → Nat} {j : Nat} : ∀ p, (∀ q, q < p → cd q = cd' q) → rsp cd j p = rsp cd' j p := by
  intro p
  induction p with
  | zero => intro _; rfl
  | succ p ih => intro h; rw [rsp, rsp, ih (fun q hq => h q (by omega)), h p (by omega)]
/-- what each code of a list is: a molecule whose atoms bind no more than they may, and that no numbering beats -/
def cOK (A P : Nat) (KM : Nat → Nat) (F0 : Nat → Int) (c : Nat) : Prop := ∃ cd : Nat → Nat, c = pk cd P ∧ (∀ j, j < P → cd j < 4) ∧ nbI A KM (mB cd) A 0 (fun _ => 0) (fun _ => false) 0 ≠ none ∧ ∀ j, j < A → (rsp cd j P : Int) ≤ F0 j
theorem esR_mem {f : Nat → List Nat → List Nat} (Q : Nat → Prop) : ∀ v acc, (∀ c ∈ acc, Q c) → (∀ x acc, x < v → (∀ c ∈ acc, Q c) → ∀ c ∈ f x acc, Q c) → ∀ c ∈ esR f v acc, Q c := by
  intro v
  induction v with
  | zero => intro acc h _; exact h
  | succ v ih =>
    intro acc h hf
    rw [esR]
    split
    · exact h
    · exact ih _ (hf v acc (by omega) h) (fun x acc hx => hf x acc (by omega))
theorem es_mem {A P : Nat} {KM : Nat → Nat} {F0 : Nat → Int} (hA : 1 ≤ A ∧ A ≤ 6) (hP : P = A * (A - 1) / 2) : ∀ (r p : Nat) (left : Int) (cd : Nat → Nat) (F : Nat → Int) (acc : List Nat), p + r = P → (∀ j, j < p → cd j < 4) → (∀ j, j < A → F j = F0 j - rsp cd j p ∧ 0 ≤ F j) → (r = 0 → nbI A KM (mB cd) A 0 (fun _ => 0) (fun _ => false) 0 ≠ none) → (∀ c ∈ acc, cOK A P KM F0 c) → ∀ c ∈ es A P KM r p left cd F acc, cOK A P KM F0 c := by
  obtain ⟨p15, pu, pn, pe⟩ := es_P hA hP
  intro r
  induction r with
  | zero =>
    intro p left cd F acc hp hcd hF hn hacc
    have : p = P := by omega
    subst this
    rw [es]
    split
    · exact hacc
    · split
      · intro c hc
        rcases List.mem_append.mp hc with z | z
        · exact hacc c z
        · have : c = pk cd p := by simpa using z
          exact ⟨cd, this, hcd, hn rfl, fun j hj => by have := hF j hj; omega⟩
      · exact hacc
  | succ r ih =>
    intro p left cd F acc hp hcd hF hn hacc
    rw [es]
    refine esR_mem (cOK A P KM F0) _ acc hacc (fun v acc hv hacc => ?_)
    have u := ul6 p (by omega)
    have ua := pu p (by omega)
    have hFa := hF (up6 p) ua
    have hFb := hF (lo6 p) (by omega)
    have hv1 : (v : Int) ≤ 3 ∧ (v : Int) ≤ F (up6 p) ∧ (v : Int) ≤ F (lo6 p) := by omega
    split
    · exact hacc
    · rename_i hb
      refine ih (p + 1) _ _ _ acc (by omega) (fun j hj => ?_) (fun j hj => ?_) (fun r0 => ?_) hacc
      · by_cases e : j = p
        · subst e; rw [va_up_self]; omega
        · rw [va_up_ne _ _ e]; exact hcd j (by omega)
      · rw [mset_at, rsp, va_up_self, rsp_congr (cd' := cd) p (fun q hq => va_up_ne _ _ (by omega))]
        have hFj := hF j hj
        by_cases e1 : j = lo6 p
        · rw [if_pos e1, if_pos (Or.inr e1.symm)]
          rw [e1] at hFj ⊢
          omega
        · rw [if_neg e1]
          by_cases e2 : j = up6 p
          · rw [if_pos e2, if_pos (Or.inl e2.symm)]
            rw [e2] at hFj ⊢
            omega
          · rw [if_neg e2, if_neg (by omega)]
            omega
      · intro hz
        apply hb
        have e := pe p (by omega)
        refine ⟨e.1, ?_⟩
        rw [e.2]
        exact hz
theorem mres_mem {n h : Nat} {KM : Nat → Nat} (hn : 1 ≤ n ∧ n ≤ 6) : ∀ c ∈ mres n h KM, cOK n (n * (n - 1) / 2) KM (fun j => mj_VAL (KM j)) c := by
  unfold mres
  split
  · refine es_mem hn rfl _ 0 _ _ _ [] (by omega) (fun j hj => absurd hj (Nat.not_lt_zero j)) (fun j hj => ⟨?_, (mj_VAL_r _).1⟩) (fun r0 => ?_) (fun c hc => absurd hc (by simp))
    · show mj_VAL (KM j) = mj_VAL (KM j) - ((0 : Nat) : Int)
      omega
    · have : n = 1 := by
        have := (show ∀ a, a ≤ 6 → 1 ≤ a → a * (a - 1) / 2 = 0 → a = 1 by decide) n hn.2 hn.1 r0
        exact this
      subst this
      exact nbI_one KM _
  · intro c hc
    exact absurd hc (by simp)
theorem cOK_lt {n : Nat} {KM : Nat → Nat} {F0 : Nat → Int} {c : Nat} (hn : n ≤ 6) (h : cOK n (n * (n - 1) / 2) KM F0 c) : c < 2 ^ 30 := by
  obtain ⟨cd, rfl, h1, -, -⟩ := h
  exact pcd_lt ((show ∀ a, a ≤ 6 → a * (a - 1) / 2 ≤ 15 by decide) n hn) h1
/-- the matrix of a code -/
theorem bv_mB {n : Nat} {cd : Nat → Nat} (hn : n ≤ 6) (h1 : ∀ j, j < n * (n - 1) / 2 → cd j < 4) : ∀ x y, x < n → y < n → bv (pk cd (n * (n - 1) / 2)) n x y = mB cd (x * 6 + y) := by
  intro x y hx hy
  have lt : ∀ n, n ≤ 6 → ∀ a, a < n → ∀ b, b < a → pr a b < n * (n - 1) / 2 := by decide
  have P15 := (show ∀ a, a ≤ 6 → a * (a - 1) / 2 ≤ 15 by decide) n hn
  rw [mB_at (by omega) (by omega)]
  unfold bv
  by_cases q1 : y < x
  · rw [if_pos ⟨q1, hx⟩, if_pos q1, dgt_dg x (by omega) y q1, dg_pk P15 (pr_lt x (by omega) y q1) h1, if_pos (lt n hn x hx y q1)]
  · rw [if_neg (fun z => q1 z.1), if_neg q1]
    by_cases q2 : x < y
    · rw [if_pos ⟨q2, hy⟩, if_pos q2, dgt_dg y (by omega) x q2, dg_pk P15 (pr_lt y (by omega) x q2) h1, if_pos (lt n hn y hy x q2)]
    · rw [if_neg (fun z => q2 z.1), if_neg q2]
/-- what the reference's list says of a bond is what the code says -/
theorem mo_bd_bv {T : Nat → Int} {acc : List Nat} {i n a b : Nat} (hT : frL T acc) (hi : i < acc.length) (hn : n ≤ 6) (ha : a < n) (hb : b < n) : mo_bd T i a b = (bv (acc.getD i 0) n a b : Nat) := by
  unfold mo_bd bv
  by_cases e : a = b
  · rw [if_pos e, if_neg (by omega), if_neg (by omega)]
    rfl
  · rw [if_neg e]
    by_cases q : b < a
    · rw [if_pos q, if_pos ⟨q, ha⟩, dgt_dg a (by omega) b q]
      exact hT i hi _ (pr_lt a (by omega) b q)
    · rw [if_neg q, if_neg (fun z => q z.1), if_pos ⟨by omega, hb⟩, dgt_dg b (by omega) a (by omega)]
      exact hT i hi _ (pr_lt b (by omega) a (by omega))
/-- how many numberings share a code of the list: the class's count is the reference's -/
theorem ways_eq {n c w : Nat} {KM : Nat → Nat} {F0 : Nat → Int} (hn : 1 ≤ n ∧ n ≤ 6) (hc : cOK n (n * (n - 1) / 2) KM F0 c) (hw : nbI n KM (mB (fun p => dg c p)) n 0 (fun _ => 0) (fun _ => false) 0 = some w) : (chI n KM (fun j => bv c n (j / 6) (j % 6)) KM n 0 0 (fun _ => 0) (fun _ => false) (c, 0)).2 = w := by
  obtain ⟨cd, rfl, h1, -, -⟩ := hc
  have P15 := (show ∀ a, a ≤ 6 → a * (a - 1) / 2 ≤ 15 by decide) n hn.2
  have ePr : pr n 0 = n * (n - 1) / 2 := by unfold pr; omega
  have lt : ∀ n, n ≤ 6 → ∀ a, a < 6 → ∀ b, b < a → pr a b < n * (n - 1) / 2 → a < n := by decide
  have hbv : ∀ x y, x < n → y < n → (fun j => bv (pk cd (n * (n - 1) / 2)) n (j / 6) (j % 6)) (x * 6 + y) = mB (fun p => dg (pk cd (n * (n - 1) / 2)) p) (x * 6 + y) := by
    intro x y hx hy
    show bv _ n ((x * 6 + y) / 6) ((x * 6 + y) % 6) = _
    rw [show (x * 6 + y) / 6 = x by omega, show (x * 6 + y) % 6 = y by omega, bv_mB hn.2 h1 x y hx hy]
    refine mB_congr (m := n) hn.2 (fun j hj => ?_) x y hx hy
    show cd j = dg _ j
    rw [dg_pk P15 (by omega) h1, if_pos hj]
  rw [← nbI_congr (B := fun j => bv (pk cd (n * (n - 1) / 2)) n (j / 6) (j % 6)) (fun _ _ => rfl) hbv n 0 _ _ 0 (by omega) (fun j hj => absurd hj (Nat.not_lt_zero j))] at hw
  have w2 := ch_nb (A := n) (P := n * (n - 1) / 2) (KM := KM) (B := fun j => bv (pk cd (n * (n - 1) / 2)) n (j / 6) (j % 6)) (cd := cd) hn.2 ePr.symm P15 h1 (fun a b ha hb hp => by
    have han := lt n hn.2 a ha b hb hp
    show bv _ n ((a * 6 + b) / 6) ((a * 6 + b) % 6) = _ ∧ bv _ n ((b * 6 + a) / 6) ((b * 6 + a) % 6) = _
    rw [show (a * 6 + b) / 6 = a by omega, show (a * 6 + b) % 6 = b by omega, show (b * 6 + a) / 6 = b by omega, show (b * 6 + a) % 6 = a by omega, bv_mB hn.2 h1 a b han (by omega), bv_mB hn.2 h1 b a (by omega) han, mB_at (by omega) (by omega), mB_at (by omega) (by omega), if_pos hb, if_neg (by omega), if_pos hb]
    exact ⟨rfl, rfl⟩) (fun j hj => by
    show bv _ n (j / 6) (j % 6) < 4
    unfold bv
    split
    · exact dgt_lt _ _ _
    · split
      · exact dgt_lt _ _ _
      · decide) n 0 (fun _ => 0) (fun _ => false) 0 w (by omega) (fun j hj => absurd hj (Nat.not_lt_zero j)) hw
  have e0 : pk cd (pr 0 0) = 0 := by show pq cd 0 * _ = 0; rw [pq, Nat.zero_mul]
  rw [e0] at w2
  rw [w2]
